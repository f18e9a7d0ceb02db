theorem dX11_in_0 : decode cX11_in 0 = .ok (.lload_n 0, 1) := by decide +kernel
theorem dX11_in_1 : decode cX11_in 1 = .ok (.lload_n 2, 1) := by decide +kernel
theorem dX11_in_2 : decode cX11_in 2 = .ok (.lcmp, 1) := by decide +kernel
theorem dX11_in_3 : decode cX11_in 3 = .ok (.ifCond .lt 14, 3) := by decide +kernel
theorem dX11_in_6 : decode cX11_in 6 = .ok (.lload_n 0, 1) := by decide +kernel
theorem dX11_in_7 : decode cX11_in 7 = .ok (.lload 4, 2) := by decide +kernel
theorem dX11_in_9 : decode cX11_in 9 = .ok (.lcmp, 1) := by decide +kernel
theorem dX11_in_10 : decode cX11_in 10 = .ok (.ifCond .gt 7, 3) := by decide +kernel
theorem dX11_in_13 : decode cX11_in 13 = .ok (.iconst 1, 1) := by decide +kernel
theorem dX11_in_14 : decode cX11_in 14 = .ok (.goto 4, 3) := by decide +kernel
theorem dX11_in_17 : decode cX11_in 17 = .ok (.iconst 0, 1) := by decide +kernel
theorem dX11_in_18 : decode cX11_in 18 = .ok (.ireturn, 1) := by decide +kernel
theorem dX11_init_0 : decode cX11_init 0 = .ok (.aload_n 0, 1) := by decide +kernel
theorem dX11_init_1 : decode cX11_init 1 = .ok (.invokespecial 1, 3) := by decide +kernel
theorem dX11_init_4 : decode cX11_init 4 = .ok (.aload_n 0, 1) := by decide +kernel
theorem dX11_init_5 : decode cX11_init 5 = .ok (.bipush 30, 2) := by decide +kernel
theorem dX11_init_7 : decode cX11_init 7 = .ok (.newarray .int, 2) := by decide +kernel
theorem dX11_init_9 : decode cX11_init 9 = .ok (.putfield 7, 3) := by decide +kernel
theorem dX11_init_12 : decode cX11_init 12 = .ok (.aload_n 0, 1) := by decide +kernel
theorem dX11_init_13 : decode cX11_init 13 = .ok (.bipush 15, 2) := by decide +kernel
theorem dX11_init_15 : decode cX11_init 15 = .ok (.newarray .int, 2) := by decide +kernel
theorem dX11_init_17 : decode cX11_init 17 = .ok (.putfield 13, 3) := by decide +kernel
theorem dX11_init_20 : decode cX11_init 20 = .ok (.aload_n 0, 1) := by decide +kernel
theorem dX11_init_21 : decode cX11_init 21 = .ok (.iconst 4, 1) := by decide +kernel
theorem dX11_init_22 : decode cX11_init 22 = .ok (.newarray .int, 2) := by decide +kernel
theorem dX11_init_24 : decode cX11_init 24 = .ok (.putfield 16, 3) := by decide +kernel
theorem dX11_init_27 : decode cX11_init 27 = .ok (.aload_n 0, 1) := by decide +kernel
theorem dX11_init_28 : decode cX11_init 28 = .ok (.iconst 1, 1) := by decide +kernel
theorem dX11_init_29 : decode cX11_init 29 = .ok (.putfield 19, 3) := by decide +kernel
theorem dX11_init_32 : decode cX11_init 32 = .ok (.aload_n 0, 1) := by decide +kernel
theorem dX11_init_33 : decode cX11_init 33 = .ok (.bipush 6, 2) := by decide +kernel
theorem dX11_init_35 : decode cX11_init 35 = .ok (.newarray .int, 2) := by decide +kernel
theorem dX11_init_37 : decode cX11_init 37 = .ok (.putfield 23, 3) := by decide +kernel
theorem dX11_init_40 : decode cX11_init 40 = .ok (.aload_n 0, 1) := by decide +kernel
theorem dX11_init_41 : decode cX11_init 41 = .ok (.bipush 100, 2) := by decide +kernel
theorem dX11_init_43 : decode cX11_init 43 = .ok (.newarray .int, 2) := by decide +kernel
theorem dX11_init_45 : decode cX11_init 45 = .ok (.putfield 26, 3) := by decide +kernel
theorem dX11_init_48 : decode cX11_init 48 = .ok (.aload_n 0, 1) := by decide +kernel
theorem dX11_init_49 : decode cX11_init 49 = .ok (.bipush 30, 2) := by decide +kernel
theorem dX11_init_51 : decode cX11_init 51 = .ok (.newarray .int, 2) := by decide +kernel
theorem dX11_init_53 : decode cX11_init 53 = .ok (.putfield 29, 3) := by decide +kernel
theorem dX11_init_56 : decode cX11_init 56 = .ok (.aload_n 0, 1) := by decide +kernel
theorem dX11_init_57 : decode cX11_init 57 = .ok (.bipush 15, 2) := by decide +kernel
theorem dX11_init_59 : decode cX11_init 59 = .ok (.newarray .int, 2) := by decide +kernel
theorem dX11_init_61 : decode cX11_init 61 = .ok (.putfield 32, 3) := by decide +kernel
theorem dX11_init_64 : decode cX11_init 64 = .ok (.aload_n 0, 1) := by decide +kernel
theorem dX11_init_65 : decode cX11_init 65 = .ok (.bipush 32, 2) := by decide +kernel
theorem dX11_init_67 : decode cX11_init 67 = .ok (.newarray .int, 2) := by decide +kernel
theorem dX11_init_69 : decode cX11_init 69 = .ok (.putfield 35, 3) := by decide +kernel
theorem dX11_init_72 : decode cX11_init 72 = .ok (.aload_n 0, 1) := by decide +kernel
theorem dX11_init_73 : decode cX11_init 73 = .ok (.sipush 2800, 3) := by decide +kernel
theorem dX11_init_76 : decode cX11_init 76 = .ok (.newarray .int, 2) := by decide +kernel
theorem dX11_init_78 : decode cX11_init 78 = .ok (.putfield 38, 3) := by decide +kernel
theorem dX11_init_81 : decode cX11_init 81 = .ok (.aload_n 0, 1) := by decide +kernel
theorem dX11_init_82 : decode cX11_init 82 = .ok (.bipush 12, 2) := by decide +kernel
theorem dX11_init_84 : decode cX11_init 84 = .ok (.newarray .int, 2) := by decide +kernel
theorem dX11_init_86 : decode cX11_init 86 = .ok (.putfield 41, 3) := by decide +kernel
theorem dX11_init_89 : decode cX11_init 89 = .ok (.aload_n 0, 1) := by decide +kernel
theorem dX11_init_90 : decode cX11_init 90 = .ok (.bipush 12, 2) := by decide +kernel
theorem dX11_init_92 : decode cX11_init 92 = .ok (.newarray .int, 2) := by decide +kernel
theorem dX11_init_94 : decode cX11_init 94 = .ok (.putfield 44, 3) := by decide +kernel
theorem dX11_init_97 : decode cX11_init 97 = .ok (.aload_n 0, 1) := by decide +kernel
theorem dX11_init_98 : decode cX11_init 98 = .ok (.bipush 111, 2) := by decide +kernel
theorem dX11_init_100 : decode cX11_init 100 = .ok (.newarray .int, 2) := by decide +kernel
theorem dX11_init_102 : decode cX11_init 102 = .ok (.putfield 47, 3) := by decide +kernel
theorem dX11_init_105 : decode cX11_init 105 = .ok (.aload_n 0, 1) := by decide +kernel
theorem dX11_init_106 : decode cX11_init 106 = .ok (.iconst 4, 1) := by decide +kernel
theorem dX11_init_107 : decode cX11_init 107 = .ok (.newarray .int, 2) := by decide +kernel
theorem dX11_init_109 : decode cX11_init 109 = .ok (.putfield 50, 3) := by decide +kernel
theorem dX11_init_112 : decode cX11_init 112 = .ok (.aload_n 0, 1) := by decide +kernel
theorem dX11_init_113 : decode cX11_init 113 = .ok (.iconst 4, 1) := by decide +kernel
theorem dX11_init_114 : decode cX11_init 114 = .ok (.newarray .int, 2) := by decide +kernel
theorem dX11_init_116 : decode cX11_init 116 = .ok (.putfield 53, 3) := by decide +kernel
theorem dX11_init_119 : decode cX11_init 119 = .ok (.aload_n 0, 1) := by decide +kernel
theorem dX11_init_120 : decode cX11_init 120 = .ok (.bipush 64, 2) := by decide +kernel
theorem dX11_init_122 : decode cX11_init 122 = .ok (.newarray .long, 2) := by decide +kernel
theorem dX11_init_124 : decode cX11_init 124 = .ok (.putfield 56, 3) := by decide +kernel
theorem dX11_init_127 : decode cX11_init 127 = .ok (.aload_n 0, 1) := by decide +kernel
theorem dX11_init_128 : decode cX11_init 128 = .ok (.bipush 16, 2) := by decide +kernel
theorem dX11_init_130 : decode cX11_init 130 = .ok (.newarray .long, 2) := by decide +kernel
theorem dX11_init_132 : decode cX11_init 132 = .ok (.putfield 60, 3) := by decide +kernel
theorem dX11_init_135 : decode cX11_init 135 = .ok (.iconst 0, 1) := by decide +kernel
theorem dX11_init_136 : decode cX11_init 136 = .ok (.istore_n 1, 1) := by decide +kernel
theorem dX11_init_137 : decode cX11_init 137 = .ok (.iload_n 1, 1) := by decide +kernel
theorem dX11_init_138 : decode cX11_init 138 = .ok (.iconst 4, 1) := by decide +kernel
theorem dX11_init_139 : decode cX11_init 139 = .ok (.if_icmp .ge 16, 3) := by decide +kernel
theorem dX11_init_142 : decode cX11_init 142 = .ok (.aload_n 0, 1) := by decide +kernel
theorem dX11_init_143 : decode cX11_init 143 = .ok (.getfield 50, 3) := by decide +kernel
theorem dX11_init_146 : decode cX11_init 146 = .ok (.iload_n 1, 1) := by decide +kernel
theorem dX11_init_147 : decode cX11_init 147 = .ok (.iconst (-1), 1) := by decide +kernel
theorem dX11_init_148 : decode cX11_init 148 = .ok (.iastore, 1) := by decide +kernel
theorem dX11_init_149 : decode cX11_init 149 = .ok (.iinc 1 1, 3) := by decide +kernel
theorem dX11_init_152 : decode cX11_init 152 = .ok (.goto (-15), 3) := by decide +kernel
theorem dX11_init_155 : decode cX11_init 155 = .ok (.aload_n 0, 1) := by decide +kernel
theorem dX11_init_156 : decode cX11_init 156 = .ok (.getfield 16, 3) := by decide +kernel
theorem dX11_init_159 : decode cX11_init 159 = .ok (.iconst 1, 1) := by decide +kernel
theorem dX11_init_160 : decode cX11_init 160 = .ok (.bipush (-4), 2) := by decide +kernel
theorem dX11_init_162 : decode cX11_init 162 = .ok (.iastore, 1) := by decide +kernel
theorem dX11_init_163 : decode cX11_init 163 = .ok (.return_, 1) := by decide +kernel
theorem dX11_isPair_0 : decode cX11_isPair 0 = .ok (.iload_n 1, 1) := by decide +kernel
theorem dX11_isPair_1 : decode cX11_isPair 1 = .ok (.i2l, 1) := by decide +kernel
theorem dX11_isPair_2 : decode cX11_isPair 2 = .ok (.lconst 0, 1) := by decide +kernel
theorem dX11_isPair_3 : decode cX11_isPair 3 = .ok (.aload_n 0, 1) := by decide +kernel
theorem dX11_isPair_4 : decode cX11_isPair 4 = .ok (.getfield 63, 3) := by decide +kernel
theorem dX11_isPair_7 : decode cX11_isPair 7 = .ok (.iconst 1, 1) := by decide +kernel
theorem dX11_isPair_8 : decode cX11_isPair 8 = .ok (.isub, 1) := by decide +kernel
theorem dX11_isPair_9 : decode cX11_isPair 9 = .ok (.i2l, 1) := by decide +kernel
theorem dX11_isPair_10 : decode cX11_isPair 10 = .ok (.invokestatic 66, 3) := by decide +kernel
theorem dX11_isPair_13 : decode cX11_isPair 13 = .ok (.ireturn, 1) := by decide +kernel
theorem dX11_isShip_0 : decode cX11_isShip 0 = .ok (.iload_n 1, 1) := by decide +kernel
theorem dX11_isShip_1 : decode cX11_isShip 1 = .ok (.i2l, 1) := by decide +kernel
theorem dX11_isShip_2 : decode cX11_isShip 2 = .ok (.lconst 0, 1) := by decide +kernel
theorem dX11_isShip_3 : decode cX11_isShip 3 = .ok (.aload_n 0, 1) := by decide +kernel
theorem dX11_isShip_4 : decode cX11_isShip 4 = .ok (.getfield 70, 3) := by decide +kernel
theorem dX11_isShip_7 : decode cX11_isShip 7 = .ok (.iconst 1, 1) := by decide +kernel
theorem dX11_isShip_8 : decode cX11_isShip 8 = .ok (.isub, 1) := by decide +kernel
theorem dX11_isShip_9 : decode cX11_isShip 9 = .ok (.i2l, 1) := by decide +kernel
theorem dX11_isShip_10 : decode cX11_isShip 10 = .ok (.invokestatic 66, 3) := by decide +kernel
theorem dX11_isShip_13 : decode cX11_isShip 13 = .ok (.ireturn, 1) := by decide +kernel
theorem dX11_isSecond_0 : decode cX11_isSecond 0 = .ok (.iload_n 0, 1) := by decide +kernel
theorem dX11_isSecond_1 : decode cX11_isSecond 1 = .ok (.i2l, 1) := by decide +kernel
theorem dX11_isSecond_2 : decode cX11_isSecond 2 = .ok (.lconst 0, 1) := by decide +kernel
theorem dX11_isSecond_3 : decode cX11_isSecond 3 = .ok (.ldc2_w 73, 3) := by decide +kernel
theorem dX11_isSecond_6 : decode cX11_isSecond 6 = .ok (.invokestatic 66, 3) := by decide +kernel
theorem dX11_isSecond_9 : decode cX11_isSecond 9 = .ok (.ireturn, 1) := by decide +kernel
theorem dX11_pairComes_0 : decode cX11_pairComes 0 = .ok (.iconst 5, 1) := by decide +kernel
theorem dX11_pairComes_1 : decode cX11_pairComes 1 = .ok (.aload_n 0, 1) := by decide +kernel
theorem dX11_pairComes_2 : decode cX11_pairComes 2 = .ok (.getfield 63, 3) := by decide +kernel
theorem dX11_pairComes_5 : decode cX11_pairComes 5 = .ok (.imul, 1) := by decide +kernel
theorem dX11_pairComes_6 : decode cX11_pairComes 6 = .ok (.istore 6, 2) := by decide +kernel
theorem dX11_pairComes_8 : decode cX11_pairComes 8 = .ok (.aload_n 0, 1) := by decide +kernel
theorem dX11_pairComes_9 : decode cX11_pairComes 9 = .ok (.getfield 7, 3) := by decide +kernel
theorem dX11_pairComes_12 : decode cX11_pairComes 12 = .ok (.iload 6, 2) := by decide +kernel
theorem dX11_pairComes_14 : decode cX11_pairComes 14 = .ok (.iload_n 1, 1) := by decide +kernel
theorem dX11_pairComes_15 : decode cX11_pairComes 15 = .ok (.iastore, 1) := by decide +kernel
theorem dX11_pairComes_16 : decode cX11_pairComes 16 = .ok (.aload_n 0, 1) := by decide +kernel
theorem dX11_pairComes_17 : decode cX11_pairComes 17 = .ok (.getfield 7, 3) := by decide +kernel
theorem dX11_pairComes_20 : decode cX11_pairComes 20 = .ok (.iload 6, 2) := by decide +kernel
theorem dX11_pairComes_22 : decode cX11_pairComes 22 = .ok (.iconst 1, 1) := by decide +kernel
theorem dX11_pairComes_23 : decode cX11_pairComes 23 = .ok (.iadd, 1) := by decide +kernel
theorem dX11_pairComes_24 : decode cX11_pairComes 24 = .ok (.iload_n 2, 1) := by decide +kernel
theorem dX11_pairComes_25 : decode cX11_pairComes 25 = .ok (.iastore, 1) := by decide +kernel
theorem dX11_pairComes_26 : decode cX11_pairComes 26 = .ok (.aload_n 0, 1) := by decide +kernel
theorem dX11_pairComes_27 : decode cX11_pairComes 27 = .ok (.getfield 7, 3) := by decide +kernel
theorem dX11_pairComes_30 : decode cX11_pairComes 30 = .ok (.iload 6, 2) := by decide +kernel
theorem dX11_pairComes_32 : decode cX11_pairComes 32 = .ok (.iconst 2, 1) := by decide +kernel
theorem dX11_pairComes_33 : decode cX11_pairComes 33 = .ok (.iadd, 1) := by decide +kernel
theorem dX11_pairComes_34 : decode cX11_pairComes 34 = .ok (.iload_n 3, 1) := by decide +kernel
theorem dX11_pairComes_35 : decode cX11_pairComes 35 = .ok (.iastore, 1) := by decide +kernel
theorem dX11_pairComes_36 : decode cX11_pairComes 36 = .ok (.aload_n 0, 1) := by decide +kernel
theorem dX11_pairComes_37 : decode cX11_pairComes 37 = .ok (.getfield 7, 3) := by decide +kernel
theorem dX11_pairComes_40 : decode cX11_pairComes 40 = .ok (.iload 6, 2) := by decide +kernel
theorem dX11_pairComes_42 : decode cX11_pairComes 42 = .ok (.iconst 3, 1) := by decide +kernel
theorem dX11_pairComes_43 : decode cX11_pairComes 43 = .ok (.iadd, 1) := by decide +kernel
theorem dX11_pairComes_44 : decode cX11_pairComes 44 = .ok (.iload 4, 2) := by decide +kernel
theorem dX11_pairComes_46 : decode cX11_pairComes 46 = .ok (.iastore, 1) := by decide +kernel
theorem dX11_pairComes_47 : decode cX11_pairComes 47 = .ok (.aload_n 0, 1) := by decide +kernel
theorem dX11_pairComes_48 : decode cX11_pairComes 48 = .ok (.getfield 7, 3) := by decide +kernel
theorem dX11_pairComes_51 : decode cX11_pairComes 51 = .ok (.iload 6, 2) := by decide +kernel
theorem dX11_pairComes_53 : decode cX11_pairComes 53 = .ok (.iconst 4, 1) := by decide +kernel
theorem dX11_pairComes_54 : decode cX11_pairComes 54 = .ok (.iadd, 1) := by decide +kernel
theorem dX11_pairComes_55 : decode cX11_pairComes 55 = .ok (.iload 5, 2) := by decide +kernel
theorem dX11_pairComes_57 : decode cX11_pairComes 57 = .ok (.iastore, 1) := by decide +kernel
theorem dX11_pairComes_58 : decode cX11_pairComes 58 = .ok (.aload_n 0, 1) := by decide +kernel
theorem dX11_pairComes_59 : decode cX11_pairComes 59 = .ok (.dup, 1) := by decide +kernel
theorem dX11_pairComes_60 : decode cX11_pairComes 60 = .ok (.getfield 63, 3) := by decide +kernel
theorem dX11_pairComes_63 : decode cX11_pairComes 63 = .ok (.iconst 1, 1) := by decide +kernel
theorem dX11_pairComes_64 : decode cX11_pairComes 64 = .ok (.iadd, 1) := by decide +kernel
theorem dX11_pairComes_65 : decode cX11_pairComes 65 = .ok (.putfield 63, 3) := by decide +kernel
theorem dX11_pairComes_68 : decode cX11_pairComes 68 = .ok (.return_, 1) := by decide +kernel
theorem dX11_pair_0 : decode cX11_pair 0 = .ok (.iload_n 1, 1) := by decide +kernel
theorem dX11_pair_1 : decode cX11_pair 1 = .ok (.i2l, 1) := by decide +kernel
theorem dX11_pair_2 : decode cX11_pair 2 = .ok (.lconst 0, 1) := by decide +kernel
theorem dX11_pair_3 : decode cX11_pair 3 = .ok (.ldc2_w 75, 3) := by decide +kernel
theorem dX11_pair_6 : decode cX11_pair 6 = .ok (.invokestatic 66, 3) := by decide +kernel
theorem dX11_pair_9 : decode cX11_pair 9 = .ok (.ifCond .eq 41, 3) := by decide +kernel
theorem dX11_pair_12 : decode cX11_pair 12 = .ok (.iload_n 2, 1) := by decide +kernel
theorem dX11_pair_13 : decode cX11_pair 13 = .ok (.i2l, 1) := by decide +kernel
theorem dX11_pair_14 : decode cX11_pair 14 = .ok (.lconst 1, 1) := by decide +kernel
theorem dX11_pair_15 : decode cX11_pair 15 = .ok (.ldc2_w 77, 3) := by decide +kernel
theorem dX11_pair_18 : decode cX11_pair 18 = .ok (.invokestatic 66, 3) := by decide +kernel
theorem dX11_pair_21 : decode cX11_pair 21 = .ok (.ifCond .eq 29, 3) := by decide +kernel
theorem dX11_pair_24 : decode cX11_pair 24 = .ok (.iload_n 3, 1) := by decide +kernel
theorem dX11_pair_25 : decode cX11_pair 25 = .ok (.i2l, 1) := by decide +kernel
theorem dX11_pair_26 : decode cX11_pair 26 = .ok (.ldc2_w 79, 3) := by decide +kernel
theorem dX11_pair_29 : decode cX11_pair 29 = .ok (.ldc2_w 81, 3) := by decide +kernel
theorem dX11_pair_32 : decode cX11_pair 32 = .ok (.invokestatic 66, 3) := by decide +kernel
theorem dX11_pair_35 : decode cX11_pair 35 = .ok (.ifCond .eq 15, 3) := by decide +kernel
theorem dX11_pair_38 : decode cX11_pair 38 = .ok (.iload 4, 2) := by decide +kernel
theorem dX11_pair_40 : decode cX11_pair 40 = .ok (.i2l, 1) := by decide +kernel
theorem dX11_pair_41 : decode cX11_pair 41 = .ok (.lconst 1, 1) := by decide +kernel
theorem dX11_pair_42 : decode cX11_pair 42 = .ok (.iload_n 3, 1) := by decide +kernel
theorem dX11_pair_43 : decode cX11_pair 43 = .ok (.i2l, 1) := by decide +kernel
theorem dX11_pair_44 : decode cX11_pair 44 = .ok (.invokestatic 66, 3) := by decide +kernel
theorem dX11_pair_47 : decode cX11_pair 47 = .ok (.ifCond .ne 5, 3) := by decide +kernel
theorem dX11_pair_50 : decode cX11_pair 50 = .ok (.iconst (-1), 1) := by decide +kernel
theorem dX11_pair_51 : decode cX11_pair 51 = .ok (.ireturn, 1) := by decide +kernel
theorem dX11_pair_52 : decode cX11_pair 52 = .ok (.aload_n 0, 1) := by decide +kernel
theorem dX11_pair_53 : decode cX11_pair 53 = .ok (.getfield 63, 3) := by decide +kernel
theorem dX11_pair_56 : decode cX11_pair 56 = .ok (.bipush 6, 2) := by decide +kernel
theorem dX11_pair_58 : decode cX11_pair 58 = .ok (.if_icmp .ne 6, 3) := by decide +kernel
theorem dX11_pair_61 : decode cX11_pair 61 = .ok (.bipush (-3), 2) := by decide +kernel
theorem dX11_pair_63 : decode cX11_pair 63 = .ok (.ireturn, 1) := by decide +kernel
theorem dX11_pair_64 : decode cX11_pair 64 = .ok (.aload_n 0, 1) := by decide +kernel
theorem dX11_pair_65 : decode cX11_pair 65 = .ok (.iload_n 1, 1) := by decide +kernel
theorem dX11_pair_66 : decode cX11_pair 66 = .ok (.iload_n 2, 1) := by decide +kernel
theorem dX11_pair_67 : decode cX11_pair 67 = .ok (.iload_n 3, 1) := by decide +kernel
theorem dX11_pair_68 : decode cX11_pair 68 = .ok (.iload 4, 2) := by decide +kernel
theorem dX11_pair_70 : decode cX11_pair 70 = .ok (.iconst 0, 1) := by decide +kernel
theorem dX11_pair_71 : decode cX11_pair 71 = .ok (.invokevirtual 83, 3) := by decide +kernel
theorem dX11_pair_74 : decode cX11_pair 74 = .ok (.aload_n 0, 1) := by decide +kernel
theorem dX11_pair_75 : decode cX11_pair 75 = .ok (.getfield 63, 3) := by decide +kernel
theorem dX11_pair_78 : decode cX11_pair 78 = .ok (.iconst 1, 1) := by decide +kernel
theorem dX11_pair_79 : decode cX11_pair 79 = .ok (.isub, 1) := by decide +kernel
theorem dX11_pair_80 : decode cX11_pair 80 = .ok (.ireturn, 1) := by decide +kernel
theorem dX11_phase_0 : decode cX11_phase 0 = .ok (.aload_n 0, 1) := by decide +kernel
theorem dX11_phase_1 : decode cX11_phase 1 = .ok (.iload_n 1, 1) := by decide +kernel
theorem dX11_phase_2 : decode cX11_phase 2 = .ok (.invokevirtual 87, 3) := by decide +kernel
theorem dX11_phase_5 : decode cX11_phase 5 = .ok (.ifCond .eq 25, 3) := by decide +kernel
theorem dX11_phase_8 : decode cX11_phase 8 = .ok (.iload_n 2, 1) := by decide +kernel
theorem dX11_phase_9 : decode cX11_phase 9 = .ok (.i2l, 1) := by decide +kernel
theorem dX11_phase_10 : decode cX11_phase 10 = .ok (.lconst 0, 1) := by decide +kernel
theorem dX11_phase_11 : decode cX11_phase 11 = .ok (.aload_n 0, 1) := by decide +kernel
theorem dX11_phase_12 : decode cX11_phase 12 = .ok (.getfield 7, 3) := by decide +kernel
theorem dX11_phase_15 : decode cX11_phase 15 = .ok (.iconst 5, 1) := by decide +kernel
theorem dX11_phase_16 : decode cX11_phase 16 = .ok (.iload_n 1, 1) := by decide +kernel
theorem dX11_phase_17 : decode cX11_phase 17 = .ok (.imul, 1) := by decide +kernel
theorem dX11_phase_18 : decode cX11_phase 18 = .ok (.iconst 2, 1) := by decide +kernel
theorem dX11_phase_19 : decode cX11_phase 19 = .ok (.iadd, 1) := by decide +kernel
theorem dX11_phase_20 : decode cX11_phase 20 = .ok (.iaload, 1) := by decide +kernel
theorem dX11_phase_21 : decode cX11_phase 21 = .ok (.iconst 1, 1) := by decide +kernel
theorem dX11_phase_22 : decode cX11_phase 22 = .ok (.isub, 1) := by decide +kernel
theorem dX11_phase_23 : decode cX11_phase 23 = .ok (.i2l, 1) := by decide +kernel
theorem dX11_phase_24 : decode cX11_phase 24 = .ok (.invokestatic 66, 3) := by decide +kernel
theorem dX11_phase_27 : decode cX11_phase 27 = .ok (.ifCond .ne 5, 3) := by decide +kernel
theorem dX11_phase_30 : decode cX11_phase 30 = .ok (.iconst (-1), 1) := by decide +kernel
theorem dX11_phase_31 : decode cX11_phase 31 = .ok (.ireturn, 1) := by decide +kernel
theorem dX11_phase_32 : decode cX11_phase 32 = .ok (.aload_n 0, 1) := by decide +kernel
theorem dX11_phase_33 : decode cX11_phase 33 = .ok (.getfield 7, 3) := by decide +kernel
theorem dX11_phase_36 : decode cX11_phase 36 = .ok (.iconst 5, 1) := by decide +kernel
theorem dX11_phase_37 : decode cX11_phase 37 = .ok (.iload_n 1, 1) := by decide +kernel
theorem dX11_phase_38 : decode cX11_phase 38 = .ok (.imul, 1) := by decide +kernel
theorem dX11_phase_39 : decode cX11_phase 39 = .ok (.iconst 4, 1) := by decide +kernel
theorem dX11_phase_40 : decode cX11_phase 40 = .ok (.iadd, 1) := by decide +kernel
theorem dX11_phase_41 : decode cX11_phase 41 = .ok (.iaload, 1) := by decide +kernel
theorem dX11_phase_42 : decode cX11_phase 42 = .ok (.istore_n 3, 1) := by decide +kernel
theorem dX11_phase_43 : decode cX11_phase 43 = .ok (.aload_n 0, 1) := by decide +kernel
theorem dX11_phase_44 : decode cX11_phase 44 = .ok (.getfield 7, 3) := by decide +kernel
theorem dX11_phase_47 : decode cX11_phase 47 = .ok (.iconst 5, 1) := by decide +kernel
theorem dX11_phase_48 : decode cX11_phase 48 = .ok (.iload_n 1, 1) := by decide +kernel
theorem dX11_phase_49 : decode cX11_phase 49 = .ok (.imul, 1) := by decide +kernel
theorem dX11_phase_50 : decode cX11_phase 50 = .ok (.iconst 4, 1) := by decide +kernel
theorem dX11_phase_51 : decode cX11_phase 51 = .ok (.iadd, 1) := by decide +kernel
theorem dX11_phase_52 : decode cX11_phase 52 = .ok (.iload_n 2, 1) := by decide +kernel
theorem dX11_phase_53 : decode cX11_phase 53 = .ok (.iastore, 1) := by decide +kernel
theorem dX11_phase_54 : decode cX11_phase 54 = .ok (.iload_n 3, 1) := by decide +kernel
theorem dX11_phase_55 : decode cX11_phase 55 = .ok (.ireturn, 1) := by decide +kernel
theorem dX11_shipComes_0 : decode cX11_shipComes 0 = .ok (.aload_n 0, 1) := by decide +kernel
theorem dX11_shipComes_1 : decode cX11_shipComes 1 = .ok (.getfield 13, 3) := by decide +kernel
theorem dX11_shipComes_4 : decode cX11_shipComes 4 = .ok (.iconst 3, 1) := by decide +kernel
theorem dX11_shipComes_5 : decode cX11_shipComes 5 = .ok (.aload_n 0, 1) := by decide +kernel
theorem dX11_shipComes_6 : decode cX11_shipComes 6 = .ok (.getfield 70, 3) := by decide +kernel
theorem dX11_shipComes_9 : decode cX11_shipComes 9 = .ok (.imul, 1) := by decide +kernel
theorem dX11_shipComes_10 : decode cX11_shipComes 10 = .ok (.iload_n 1, 1) := by decide +kernel
theorem dX11_shipComes_11 : decode cX11_shipComes 11 = .ok (.iastore, 1) := by decide +kernel
theorem dX11_shipComes_12 : decode cX11_shipComes 12 = .ok (.aload_n 0, 1) := by decide +kernel
theorem dX11_shipComes_13 : decode cX11_shipComes 13 = .ok (.getfield 13, 3) := by decide +kernel
theorem dX11_shipComes_16 : decode cX11_shipComes 16 = .ok (.iconst 3, 1) := by decide +kernel
theorem dX11_shipComes_17 : decode cX11_shipComes 17 = .ok (.aload_n 0, 1) := by decide +kernel
theorem dX11_shipComes_18 : decode cX11_shipComes 18 = .ok (.getfield 70, 3) := by decide +kernel
theorem dX11_shipComes_21 : decode cX11_shipComes 21 = .ok (.imul, 1) := by decide +kernel
theorem dX11_shipComes_22 : decode cX11_shipComes 22 = .ok (.iconst 1, 1) := by decide +kernel
theorem dX11_shipComes_23 : decode cX11_shipComes 23 = .ok (.iadd, 1) := by decide +kernel
theorem dX11_shipComes_24 : decode cX11_shipComes 24 = .ok (.iload_n 2, 1) := by decide +kernel
theorem dX11_shipComes_25 : decode cX11_shipComes 25 = .ok (.iastore, 1) := by decide +kernel
theorem dX11_shipComes_26 : decode cX11_shipComes 26 = .ok (.aload_n 0, 1) := by decide +kernel
theorem dX11_shipComes_27 : decode cX11_shipComes 27 = .ok (.getfield 13, 3) := by decide +kernel
theorem dX11_shipComes_30 : decode cX11_shipComes 30 = .ok (.iconst 3, 1) := by decide +kernel
theorem dX11_shipComes_31 : decode cX11_shipComes 31 = .ok (.aload_n 0, 1) := by decide +kernel
theorem dX11_shipComes_32 : decode cX11_shipComes 32 = .ok (.getfield 70, 3) := by decide +kernel
theorem dX11_shipComes_35 : decode cX11_shipComes 35 = .ok (.imul, 1) := by decide +kernel
theorem dX11_shipComes_36 : decode cX11_shipComes 36 = .ok (.iconst 2, 1) := by decide +kernel
theorem dX11_shipComes_37 : decode cX11_shipComes 37 = .ok (.iadd, 1) := by decide +kernel
theorem dX11_shipComes_38 : decode cX11_shipComes 38 = .ok (.iload_n 3, 1) := by decide +kernel
theorem dX11_shipComes_39 : decode cX11_shipComes 39 = .ok (.iastore, 1) := by decide +kernel
theorem dX11_shipComes_40 : decode cX11_shipComes 40 = .ok (.aload_n 0, 1) := by decide +kernel
theorem dX11_shipComes_41 : decode cX11_shipComes 41 = .ok (.dup, 1) := by decide +kernel
theorem dX11_shipComes_42 : decode cX11_shipComes 42 = .ok (.getfield 70, 3) := by decide +kernel
theorem dX11_shipComes_45 : decode cX11_shipComes 45 = .ok (.iconst 1, 1) := by decide +kernel
theorem dX11_shipComes_46 : decode cX11_shipComes 46 = .ok (.iadd, 1) := by decide +kernel
theorem dX11_shipComes_47 : decode cX11_shipComes 47 = .ok (.putfield 70, 3) := by decide +kernel
theorem dX11_shipComes_50 : decode cX11_shipComes 50 = .ok (.return_, 1) := by decide +kernel
theorem dX11_ship_0 : decode cX11_ship 0 = .ok (.iload_n 1, 1) := by decide +kernel
theorem dX11_ship_1 : decode cX11_ship 1 = .ok (.i2l, 1) := by decide +kernel
theorem dX11_ship_2 : decode cX11_ship 2 = .ok (.lconst 0, 1) := by decide +kernel
theorem dX11_ship_3 : decode cX11_ship 3 = .ok (.ldc2_w 75, 3) := by decide +kernel
theorem dX11_ship_6 : decode cX11_ship 6 = .ok (.invokestatic 66, 3) := by decide +kernel
theorem dX11_ship_9 : decode cX11_ship 9 = .ok (.ifCond .eq 27, 3) := by decide +kernel
theorem dX11_ship_12 : decode cX11_ship 12 = .ok (.iload_n 2, 1) := by decide +kernel
theorem dX11_ship_13 : decode cX11_ship 13 = .ok (.i2l, 1) := by decide +kernel
theorem dX11_ship_14 : decode cX11_ship 14 = .ok (.lconst 1, 1) := by decide +kernel
theorem dX11_ship_15 : decode cX11_ship 15 = .ok (.ldc2_w 91, 3) := by decide +kernel
theorem dX11_ship_18 : decode cX11_ship 18 = .ok (.invokestatic 66, 3) := by decide +kernel
theorem dX11_ship_21 : decode cX11_ship 21 = .ok (.ifCond .eq 15, 3) := by decide +kernel
theorem dX11_ship_24 : decode cX11_ship 24 = .ok (.iload_n 3, 1) := by decide +kernel
theorem dX11_ship_25 : decode cX11_ship 25 = .ok (.i2l, 1) := by decide +kernel
theorem dX11_ship_26 : decode cX11_ship 26 = .ok (.lconst 1, 1) := by decide +kernel
theorem dX11_ship_27 : decode cX11_ship 27 = .ok (.ldc2_w 93, 3) := by decide +kernel
theorem dX11_ship_30 : decode cX11_ship 30 = .ok (.invokestatic 66, 3) := by decide +kernel
theorem dX11_ship_33 : decode cX11_ship 33 = .ok (.ifCond .ne 5, 3) := by decide +kernel
theorem dX11_ship_36 : decode cX11_ship 36 = .ok (.iconst (-1), 1) := by decide +kernel
theorem dX11_ship_37 : decode cX11_ship 37 = .ok (.ireturn, 1) := by decide +kernel
theorem dX11_ship_38 : decode cX11_ship 38 = .ok (.aload_n 0, 1) := by decide +kernel
theorem dX11_ship_39 : decode cX11_ship 39 = .ok (.getfield 70, 3) := by decide +kernel
theorem dX11_ship_42 : decode cX11_ship 42 = .ok (.iconst 5, 1) := by decide +kernel
theorem dX11_ship_43 : decode cX11_ship 43 = .ok (.if_icmp .ne 6, 3) := by decide +kernel
theorem dX11_ship_46 : decode cX11_ship 46 = .ok (.bipush (-3), 2) := by decide +kernel
theorem dX11_ship_48 : decode cX11_ship 48 = .ok (.ireturn, 1) := by decide +kernel
theorem dX11_ship_49 : decode cX11_ship 49 = .ok (.aload_n 0, 1) := by decide +kernel
theorem dX11_ship_50 : decode cX11_ship 50 = .ok (.iload_n 1, 1) := by decide +kernel
theorem dX11_ship_51 : decode cX11_ship 51 = .ok (.iload_n 2, 1) := by decide +kernel
theorem dX11_ship_52 : decode cX11_ship 52 = .ok (.iload_n 3, 1) := by decide +kernel
theorem dX11_ship_53 : decode cX11_ship 53 = .ok (.invokevirtual 95, 3) := by decide +kernel
theorem dX11_ship_56 : decode cX11_ship 56 = .ok (.aload_n 0, 1) := by decide +kernel
theorem dX11_ship_57 : decode cX11_ship 57 = .ok (.getfield 70, 3) := by decide +kernel
theorem dX11_ship_60 : decode cX11_ship 60 = .ok (.iconst 1, 1) := by decide +kernel
theorem dX11_ship_61 : decode cX11_ship 61 = .ok (.isub, 1) := by decide +kernel
theorem dX11_ship_62 : decode cX11_ship 62 = .ok (.ireturn, 1) := by decide +kernel
theorem dX11_of_0 : decode cX11_of 0 = .ok (.aload_n 0, 1) := by decide +kernel
theorem dX11_of_1 : decode cX11_of 1 = .ok (.iload_n 1, 1) := by decide +kernel
theorem dX11_of_2 : decode cX11_of 2 = .ok (.invokevirtual 87, 3) := by decide +kernel
theorem dX11_of_5 : decode cX11_of 5 = .ok (.ifCond .eq 28, 3) := by decide +kernel
theorem dX11_of_8 : decode cX11_of 8 = .ok (.iload_n 2, 1) := by decide +kernel
theorem dX11_of_9 : decode cX11_of 9 = .ok (.i2l, 1) := by decide +kernel
theorem dX11_of_10 : decode cX11_of 10 = .ok (.lconst 0, 1) := by decide +kernel
theorem dX11_of_11 : decode cX11_of 11 = .ok (.ldc2_w 99, 3) := by decide +kernel
theorem dX11_of_14 : decode cX11_of 14 = .ok (.invokestatic 66, 3) := by decide +kernel
theorem dX11_of_17 : decode cX11_of 17 = .ok (.ifCond .eq 16, 3) := by decide +kernel
theorem dX11_of_20 : decode cX11_of 20 = .ok (.aload_n 0, 1) := by decide +kernel
theorem dX11_of_21 : decode cX11_of 21 = .ok (.getfield 7, 3) := by decide +kernel
theorem dX11_of_24 : decode cX11_of 24 = .ok (.iconst 5, 1) := by decide +kernel
theorem dX11_of_25 : decode cX11_of 25 = .ok (.iload_n 1, 1) := by decide +kernel
theorem dX11_of_26 : decode cX11_of 26 = .ok (.imul, 1) := by decide +kernel
theorem dX11_of_27 : decode cX11_of 27 = .ok (.iload_n 2, 1) := by decide +kernel
theorem dX11_of_28 : decode cX11_of 28 = .ok (.iadd, 1) := by decide +kernel
theorem dX11_of_29 : decode cX11_of 29 = .ok (.iaload, 1) := by decide +kernel
theorem dX11_of_30 : decode cX11_of 30 = .ok (.goto 4, 3) := by decide +kernel
theorem dX11_of_33 : decode cX11_of 33 = .ok (.iconst (-1), 1) := by decide +kernel
theorem dX11_of_34 : decode cX11_of 34 = .ok (.ireturn, 1) := by decide +kernel
theorem dX11_high_0 : decode cX11_high 0 = .ok (.aload_n 0, 1) := by decide +kernel
theorem dX11_high_1 : decode cX11_high 1 = .ok (.getfield 13, 3) := by decide +kernel
theorem dX11_high_4 : decode cX11_high 4 = .ok (.iconst 3, 1) := by decide +kernel
theorem dX11_high_5 : decode cX11_high 5 = .ok (.iload_n 1, 1) := by decide +kernel
theorem dX11_high_6 : decode cX11_high 6 = .ok (.imul, 1) := by decide +kernel
theorem dX11_high_7 : decode cX11_high 7 = .ok (.iconst 2, 1) := by decide +kernel
theorem dX11_high_8 : decode cX11_high 8 = .ok (.iadd, 1) := by decide +kernel
theorem dX11_high_9 : decode cX11_high 9 = .ok (.iaload, 1) := by decide +kernel
theorem dX11_high_10 : decode cX11_high 10 = .ok (.istore_n 2, 1) := by decide +kernel
theorem dX11_high_11 : decode cX11_high 11 = .ok (.aload_n 0, 1) := by decide +kernel
theorem dX11_high_12 : decode cX11_high 12 = .ok (.getfield 13, 3) := by decide +kernel
theorem dX11_high_15 : decode cX11_high 15 = .ok (.iconst 3, 1) := by decide +kernel
theorem dX11_high_16 : decode cX11_high 16 = .ok (.iload_n 1, 1) := by decide +kernel
theorem dX11_high_17 : decode cX11_high 17 = .ok (.imul, 1) := by decide +kernel
theorem dX11_high_18 : decode cX11_high 18 = .ok (.iaload, 1) := by decide +kernel
theorem dX11_high_19 : decode cX11_high 19 = .ok (.iconst 2, 1) := by decide +kernel
theorem dX11_high_20 : decode cX11_high 20 = .ok (.irem, 1) := by decide +kernel
theorem dX11_high_21 : decode cX11_high 21 = .ok (.iconst 1, 1) := by decide +kernel
theorem dX11_high_22 : decode cX11_high 22 = .ok (.if_icmp .ne 12, 3) := by decide +kernel
theorem dX11_high_25 : decode cX11_high 25 = .ok (.iload_n 2, 1) := by decide +kernel
theorem dX11_high_26 : decode cX11_high 26 = .ok (.iconst 2, 1) := by decide +kernel
theorem dX11_high_27 : decode cX11_high 27 = .ok (.if_icmp .le 7, 3) := by decide +kernel
theorem dX11_high_30 : decode cX11_high 30 = .ok (.iconst 2, 1) := by decide +kernel
theorem dX11_high_31 : decode cX11_high 31 = .ok (.goto 4, 3) := by decide +kernel
theorem dX11_high_34 : decode cX11_high 34 = .ok (.iload_n 2, 1) := by decide +kernel
theorem dX11_high_35 : decode cX11_high 35 = .ok (.ireturn, 1) := by decide +kernel
theorem dX11_low_0 : decode cX11_low 0 = .ok (.aload_n 0, 1) := by decide +kernel
theorem dX11_low_1 : decode cX11_low 1 = .ok (.getfield 13, 3) := by decide +kernel
theorem dX11_low_4 : decode cX11_low 4 = .ok (.iconst 3, 1) := by decide +kernel
theorem dX11_low_5 : decode cX11_low 5 = .ok (.iload_n 1, 1) := by decide +kernel
theorem dX11_low_6 : decode cX11_low 6 = .ok (.imul, 1) := by decide +kernel
theorem dX11_low_7 : decode cX11_low 7 = .ok (.iaload, 1) := by decide +kernel
theorem dX11_low_8 : decode cX11_low 8 = .ok (.iconst 2, 1) := by decide +kernel
theorem dX11_low_9 : decode cX11_low 9 = .ok (.if_icmp .ne 11, 3) := by decide +kernel
theorem dX11_low_12 : decode cX11_low 12 = .ok (.aload_n 0, 1) := by decide +kernel
theorem dX11_low_13 : decode cX11_low 13 = .ok (.iload_n 1, 1) := by decide +kernel
theorem dX11_low_14 : decode cX11_low 14 = .ok (.invokevirtual 101, 3) := by decide +kernel
theorem dX11_low_17 : decode cX11_low 17 = .ok (.goto 4, 3) := by decide +kernel
theorem dX11_low_20 : decode cX11_low 20 = .ok (.iconst 1, 1) := by decide +kernel
theorem dX11_low_21 : decode cX11_low 21 = .ok (.ireturn, 1) := by decide +kernel
theorem dX11_span_0 : decode cX11_span 0 = .ok (.aload_n 0, 1) := by decide +kernel
theorem dX11_span_1 : decode cX11_span 1 = .ok (.getfield 13, 3) := by decide +kernel
theorem dX11_span_4 : decode cX11_span 4 = .ok (.iconst 3, 1) := by decide +kernel
theorem dX11_span_5 : decode cX11_span 5 = .ok (.iload_n 1, 1) := by decide +kernel
theorem dX11_span_6 : decode cX11_span 6 = .ok (.imul, 1) := by decide +kernel
theorem dX11_span_7 : decode cX11_span 7 = .ok (.iconst 1, 1) := by decide +kernel
theorem dX11_span_8 : decode cX11_span 8 = .ok (.iadd, 1) := by decide +kernel
theorem dX11_span_9 : decode cX11_span 9 = .ok (.iaload, 1) := by decide +kernel
theorem dX11_span_10 : decode cX11_span 10 = .ok (.aload_n 0, 1) := by decide +kernel
theorem dX11_span_11 : decode cX11_span 11 = .ok (.getfield 13, 3) := by decide +kernel
theorem dX11_span_14 : decode cX11_span 14 = .ok (.iconst 3, 1) := by decide +kernel
theorem dX11_span_15 : decode cX11_span 15 = .ok (.iload_n 1, 1) := by decide +kernel
theorem dX11_span_16 : decode cX11_span 16 = .ok (.imul, 1) := by decide +kernel
theorem dX11_span_17 : decode cX11_span 17 = .ok (.iaload, 1) := by decide +kernel
theorem dX11_span_18 : decode cX11_span 18 = .ok (.iconst 3, 1) := by decide +kernel
theorem dX11_span_19 : decode cX11_span 19 = .ok (.if_icmp .ne 7, 3) := by decide +kernel
theorem dX11_span_22 : decode cX11_span 22 = .ok (.iconst 2, 1) := by decide +kernel
theorem dX11_span_23 : decode cX11_span 23 = .ok (.goto 4, 3) := by decide +kernel
theorem dX11_span_26 : decode cX11_span 26 = .ok (.iconst 0, 1) := by decide +kernel
theorem dX11_span_27 : decode cX11_span 27 = .ok (.iadd, 1) := by decide +kernel
theorem dX11_span_28 : decode cX11_span 28 = .ok (.ireturn, 1) := by decide +kernel
theorem dX11_told_0 : decode cX11_told 0 = .ok (.aload_n 0, 1) := by decide +kernel
theorem dX11_told_1 : decode cX11_told 1 = .ok (.iload_n 1, 1) := by decide +kernel
theorem dX11_told_2 : decode cX11_told 2 = .ok (.invokevirtual 105, 3) := by decide +kernel
theorem dX11_told_5 : decode cX11_told 5 = .ok (.ifCond .eq 15, 3) := by decide +kernel
theorem dX11_told_8 : decode cX11_told 8 = .ok (.iload_n 2, 1) := by decide +kernel
theorem dX11_told_9 : decode cX11_told 9 = .ok (.i2l, 1) := by decide +kernel
theorem dX11_told_10 : decode cX11_told 10 = .ok (.lconst 0, 1) := by decide +kernel
theorem dX11_told_11 : decode cX11_told 11 = .ok (.ldc2_w 93, 3) := by decide +kernel
theorem dX11_told_14 : decode cX11_told 14 = .ok (.invokestatic 66, 3) := by decide +kernel
theorem dX11_told_17 : decode cX11_told 17 = .ok (.ifCond .ne 5, 3) := by decide +kernel
theorem dX11_told_20 : decode cX11_told 20 = .ok (.iconst (-1), 1) := by decide +kernel
theorem dX11_told_21 : decode cX11_told 21 = .ok (.ireturn, 1) := by decide +kernel
theorem dX11_told_22 : decode cX11_told 22 = .ok (.iload_n 2, 1) := by decide +kernel
theorem dX11_told_23 : decode cX11_told 23 = .ok (.iconst 3, 1) := by decide +kernel
theorem dX11_told_24 : decode cX11_told 24 = .ok (.if_icmp .ge 16, 3) := by decide +kernel
theorem dX11_told_27 : decode cX11_told 27 = .ok (.aload_n 0, 1) := by decide +kernel
theorem dX11_told_28 : decode cX11_told 28 = .ok (.getfield 13, 3) := by decide +kernel
theorem dX11_told_31 : decode cX11_told 31 = .ok (.iconst 3, 1) := by decide +kernel
theorem dX11_told_32 : decode cX11_told 32 = .ok (.iload_n 1, 1) := by decide +kernel
theorem dX11_told_33 : decode cX11_told 33 = .ok (.imul, 1) := by decide +kernel
theorem dX11_told_34 : decode cX11_told 34 = .ok (.iload_n 2, 1) := by decide +kernel
theorem dX11_told_35 : decode cX11_told 35 = .ok (.iadd, 1) := by decide +kernel
theorem dX11_told_36 : decode cX11_told 36 = .ok (.iaload, 1) := by decide +kernel
theorem dX11_told_37 : decode cX11_told 37 = .ok (.goto 34, 3) := by decide +kernel
theorem dX11_told_40 : decode cX11_told 40 = .ok (.iload_n 2, 1) := by decide +kernel
theorem dX11_told_41 : decode cX11_told 41 = .ok (.iconst 3, 1) := by decide +kernel
theorem dX11_told_42 : decode cX11_told 42 = .ok (.if_icmp .ne 11, 3) := by decide +kernel
theorem dX11_told_45 : decode cX11_told 45 = .ok (.aload_n 0, 1) := by decide +kernel
theorem dX11_told_46 : decode cX11_told 46 = .ok (.iload_n 1, 1) := by decide +kernel
theorem dX11_told_47 : decode cX11_told 47 = .ok (.invokevirtual 108, 3) := by decide +kernel
theorem dX11_told_50 : decode cX11_told 50 = .ok (.goto 21, 3) := by decide +kernel
theorem dX11_told_53 : decode cX11_told 53 = .ok (.iload_n 2, 1) := by decide +kernel
theorem dX11_told_54 : decode cX11_told 54 = .ok (.iconst 4, 1) := by decide +kernel
theorem dX11_told_55 : decode cX11_told 55 = .ok (.if_icmp .ne 11, 3) := by decide +kernel
theorem dX11_told_58 : decode cX11_told 58 = .ok (.aload_n 0, 1) := by decide +kernel
theorem dX11_told_59 : decode cX11_told 59 = .ok (.iload_n 1, 1) := by decide +kernel
theorem dX11_told_60 : decode cX11_told 60 = .ok (.invokevirtual 101, 3) := by decide +kernel
theorem dX11_told_63 : decode cX11_told 63 = .ok (.goto 8, 3) := by decide +kernel
theorem dX11_told_66 : decode cX11_told 66 = .ok (.aload_n 0, 1) := by decide +kernel
theorem dX11_told_67 : decode cX11_told 67 = .ok (.iload_n 1, 1) := by decide +kernel
theorem dX11_told_68 : decode cX11_told 68 = .ok (.invokevirtual 111, 3) := by decide +kernel
theorem dX11_told_71 : decode cX11_told 71 = .ok (.ireturn, 1) := by decide +kernel
theorem dX11_isPlain_0 : decode cX11_isPlain 0 = .ok (.iload_n 2, 1) := by decide +kernel
theorem dX11_isPlain_1 : decode cX11_isPlain 1 = .ok (.iload_n 3, 1) := by decide +kernel
theorem dX11_isPlain_2 : decode cX11_isPlain 2 = .ok (.iadd, 1) := by decide +kernel
theorem dX11_isPlain_3 : decode cX11_isPlain 3 = .ok (.aload_n 0, 1) := by decide +kernel
theorem dX11_isPlain_4 : decode cX11_isPlain 4 = .ok (.getfield 7, 3) := by decide +kernel
theorem dX11_isPlain_7 : decode cX11_isPlain 7 = .ok (.iconst 5, 1) := by decide +kernel
theorem dX11_isPlain_8 : decode cX11_isPlain 8 = .ok (.iload_n 1, 1) := by decide +kernel
theorem dX11_isPlain_9 : decode cX11_isPlain 9 = .ok (.imul, 1) := by decide +kernel
theorem dX11_isPlain_10 : decode cX11_isPlain 10 = .ok (.iconst 2, 1) := by decide +kernel
theorem dX11_isPlain_11 : decode cX11_isPlain 11 = .ok (.iadd, 1) := by decide +kernel
theorem dX11_isPlain_12 : decode cX11_isPlain 12 = .ok (.iaload, 1) := by decide +kernel
theorem dX11_isPlain_13 : decode cX11_isPlain 13 = .ok (.irem, 1) := by decide +kernel
theorem dX11_isPlain_14 : decode cX11_isPlain 14 = .ok (.aload_n 0, 1) := by decide +kernel
theorem dX11_isPlain_15 : decode cX11_isPlain 15 = .ok (.getfield 7, 3) := by decide +kernel
theorem dX11_isPlain_18 : decode cX11_isPlain 18 = .ok (.iconst 5, 1) := by decide +kernel
theorem dX11_isPlain_19 : decode cX11_isPlain 19 = .ok (.iload_n 1, 1) := by decide +kernel
theorem dX11_isPlain_20 : decode cX11_isPlain 20 = .ok (.imul, 1) := by decide +kernel
theorem dX11_isPlain_21 : decode cX11_isPlain 21 = .ok (.iconst 3, 1) := by decide +kernel
theorem dX11_isPlain_22 : decode cX11_isPlain 22 = .ok (.iadd, 1) := by decide +kernel
theorem dX11_isPlain_23 : decode cX11_isPlain 23 = .ok (.iaload, 1) := by decide +kernel
theorem dX11_isPlain_24 : decode cX11_isPlain 24 = .ok (.if_icmp .ge 7, 3) := by decide +kernel
theorem dX11_isPlain_27 : decode cX11_isPlain 27 = .ok (.iconst 1, 1) := by decide +kernel
theorem dX11_isPlain_28 : decode cX11_isPlain 28 = .ok (.goto 4, 3) := by decide +kernel
theorem dX11_isPlain_31 : decode cX11_isPlain 31 = .ok (.iconst 0, 1) := by decide +kernel
theorem dX11_isPlain_32 : decode cX11_isPlain 32 = .ok (.ireturn, 1) := by decide +kernel
theorem dX11_isOpen_0 : decode cX11_isOpen 0 = .ok (.aload_n 0, 1) := by decide +kernel
theorem dX11_isOpen_1 : decode cX11_isOpen 1 = .ok (.getfield 7, 3) := by decide +kernel
theorem dX11_isOpen_4 : decode cX11_isOpen 4 = .ok (.iconst 5, 1) := by decide +kernel
theorem dX11_isOpen_5 : decode cX11_isOpen 5 = .ok (.iload_n 1, 1) := by decide +kernel
theorem dX11_isOpen_6 : decode cX11_isOpen 6 = .ok (.imul, 1) := by decide +kernel
theorem dX11_isOpen_7 : decode cX11_isOpen 7 = .ok (.iaload, 1) := by decide +kernel
theorem dX11_isOpen_8 : decode cX11_isOpen 8 = .ok (.tableswitch 85 0 2 #[28, 36, 46], 28) := by decide +kernel
theorem dX11_isOpen_36 : decode cX11_isOpen 36 = .ok (.aload_n 0, 1) := by decide +kernel
theorem dX11_isOpen_37 : decode cX11_isOpen 37 = .ok (.iload_n 1, 1) := by decide +kernel
theorem dX11_isOpen_38 : decode cX11_isOpen 38 = .ok (.iload_n 2, 1) := by decide +kernel
theorem dX11_isOpen_39 : decode cX11_isOpen 39 = .ok (.iload_n 3, 1) := by decide +kernel
theorem dX11_isOpen_40 : decode cX11_isOpen 40 = .ok (.invokevirtual 114, 3) := by decide +kernel
theorem dX11_isOpen_43 : decode cX11_isOpen 43 = .ok (.ireturn, 1) := by decide +kernel
theorem dX11_isOpen_44 : decode cX11_isOpen 44 = .ok (.aload_n 0, 1) := by decide +kernel
theorem dX11_isOpen_45 : decode cX11_isOpen 45 = .ok (.iload_n 1, 1) := by decide +kernel
theorem dX11_isOpen_46 : decode cX11_isOpen 46 = .ok (.iload_n 2, 1) := by decide +kernel
theorem dX11_isOpen_47 : decode cX11_isOpen 47 = .ok (.iconst 2, 1) := by decide +kernel
theorem dX11_isOpen_48 : decode cX11_isOpen 48 = .ok (.idiv, 1) := by decide +kernel
theorem dX11_isOpen_49 : decode cX11_isOpen 49 = .ok (.iload_n 3, 1) := by decide +kernel
theorem dX11_isOpen_50 : decode cX11_isOpen 50 = .ok (.invokevirtual 114, 3) := by decide +kernel
theorem dX11_isOpen_53 : decode cX11_isOpen 53 = .ok (.ireturn, 1) := by decide +kernel
theorem dX11_isOpen_54 : decode cX11_isOpen 54 = .ok (.aload_n 0, 1) := by decide +kernel
theorem dX11_isOpen_55 : decode cX11_isOpen 55 = .ok (.iload_n 1, 1) := by decide +kernel
theorem dX11_isOpen_56 : decode cX11_isOpen 56 = .ok (.iload_n 2, 1) := by decide +kernel
theorem dX11_isOpen_57 : decode cX11_isOpen 57 = .ok (.iload_n 3, 1) := by decide +kernel
theorem dX11_isOpen_58 : decode cX11_isOpen 58 = .ok (.invokevirtual 114, 3) := by decide +kernel
theorem dX11_isOpen_61 : decode cX11_isOpen 61 = .ok (.ifCond .ne 26, 3) := by decide +kernel
theorem dX11_isOpen_64 : decode cX11_isOpen 64 = .ok (.aload_n 0, 1) := by decide +kernel
theorem dX11_isOpen_65 : decode cX11_isOpen 65 = .ok (.iload_n 1, 1) := by decide +kernel
theorem dX11_isOpen_66 : decode cX11_isOpen 66 = .ok (.iload_n 2, 1) := by decide +kernel
theorem dX11_isOpen_67 : decode cX11_isOpen 67 = .ok (.aload_n 0, 1) := by decide +kernel
theorem dX11_isOpen_68 : decode cX11_isOpen 68 = .ok (.getfield 7, 3) := by decide +kernel
theorem dX11_isOpen_71 : decode cX11_isOpen 71 = .ok (.iconst 5, 1) := by decide +kernel
theorem dX11_isOpen_72 : decode cX11_isOpen 72 = .ok (.iload_n 1, 1) := by decide +kernel
theorem dX11_isOpen_73 : decode cX11_isOpen 73 = .ok (.imul, 1) := by decide +kernel
theorem dX11_isOpen_74 : decode cX11_isOpen 74 = .ok (.iconst 2, 1) := by decide +kernel
theorem dX11_isOpen_75 : decode cX11_isOpen 75 = .ok (.iadd, 1) := by decide +kernel
theorem dX11_isOpen_76 : decode cX11_isOpen 76 = .ok (.iaload, 1) := by decide +kernel
theorem dX11_isOpen_77 : decode cX11_isOpen 77 = .ok (.iconst 2, 1) := by decide +kernel
theorem dX11_isOpen_78 : decode cX11_isOpen 78 = .ok (.idiv, 1) := by decide +kernel
theorem dX11_isOpen_79 : decode cX11_isOpen 79 = .ok (.iadd, 1) := by decide +kernel
theorem dX11_isOpen_80 : decode cX11_isOpen 80 = .ok (.iload_n 3, 1) := by decide +kernel
theorem dX11_isOpen_81 : decode cX11_isOpen 81 = .ok (.invokevirtual 114, 3) := by decide +kernel
theorem dX11_isOpen_84 : decode cX11_isOpen 84 = .ok (.ifCond .eq 7, 3) := by decide +kernel
theorem dX11_isOpen_87 : decode cX11_isOpen 87 = .ok (.iconst 1, 1) := by decide +kernel
theorem dX11_isOpen_88 : decode cX11_isOpen 88 = .ok (.goto 4, 3) := by decide +kernel
theorem dX11_isOpen_91 : decode cX11_isOpen 91 = .ok (.iconst 0, 1) := by decide +kernel
theorem dX11_isOpen_92 : decode cX11_isOpen 92 = .ok (.ireturn, 1) := by decide +kernel
theorem dX11_isOpen_93 : decode cX11_isOpen 93 = .ok (.iload_n 2, 1) := by decide +kernel
theorem dX11_isOpen_94 : decode cX11_isOpen 94 = .ok (.ifCond .le 33, 3) := by decide +kernel
theorem dX11_isOpen_97 : decode cX11_isOpen 97 = .ok (.aload_n 0, 1) := by decide +kernel
theorem dX11_isOpen_98 : decode cX11_isOpen 98 = .ok (.iload_n 1, 1) := by decide +kernel
theorem dX11_isOpen_99 : decode cX11_isOpen 99 = .ok (.iload_n 2, 1) := by decide +kernel
theorem dX11_isOpen_100 : decode cX11_isOpen 100 = .ok (.iconst 2, 1) := by decide +kernel
theorem dX11_isOpen_101 : decode cX11_isOpen 101 = .ok (.idiv, 1) := by decide +kernel
theorem dX11_isOpen_102 : decode cX11_isOpen 102 = .ok (.iload_n 3, 1) := by decide +kernel
theorem dX11_isOpen_103 : decode cX11_isOpen 103 = .ok (.invokevirtual 114, 3) := by decide +kernel
theorem dX11_isOpen_106 : decode cX11_isOpen 106 = .ok (.ifCond .eq 21, 3) := by decide +kernel
theorem dX11_isOpen_109 : decode cX11_isOpen 109 = .ok (.aload_n 0, 1) := by decide +kernel
theorem dX11_isOpen_110 : decode cX11_isOpen 110 = .ok (.iload_n 1, 1) := by decide +kernel
theorem dX11_isOpen_111 : decode cX11_isOpen 111 = .ok (.iload_n 2, 1) := by decide +kernel
theorem dX11_isOpen_112 : decode cX11_isOpen 112 = .ok (.iconst 1, 1) := by decide +kernel
theorem dX11_isOpen_113 : decode cX11_isOpen 113 = .ok (.isub, 1) := by decide +kernel
theorem dX11_isOpen_114 : decode cX11_isOpen 114 = .ok (.iconst 2, 1) := by decide +kernel
theorem dX11_isOpen_115 : decode cX11_isOpen 115 = .ok (.idiv, 1) := by decide +kernel
theorem dX11_isOpen_116 : decode cX11_isOpen 116 = .ok (.iload_n 3, 1) := by decide +kernel
theorem dX11_isOpen_117 : decode cX11_isOpen 117 = .ok (.invokevirtual 114, 3) := by decide +kernel
theorem dX11_isOpen_120 : decode cX11_isOpen 120 = .ok (.ifCond .eq 7, 3) := by decide +kernel
theorem dX11_isOpen_123 : decode cX11_isOpen 123 = .ok (.iconst 1, 1) := by decide +kernel
theorem dX11_isOpen_124 : decode cX11_isOpen 124 = .ok (.goto 4, 3) := by decide +kernel
theorem dX11_isOpen_127 : decode cX11_isOpen 127 = .ok (.iconst 0, 1) := by decide +kernel
theorem dX11_isOpen_128 : decode cX11_isOpen 128 = .ok (.ireturn, 1) := by decide +kernel
theorem dX11_open_0 : decode cX11_open 0 = .ok (.aload_n 0, 1) := by decide +kernel
theorem dX11_open_1 : decode cX11_open 1 = .ok (.iload_n 1, 1) := by decide +kernel
theorem dX11_open_2 : decode cX11_open 2 = .ok (.invokevirtual 87, 3) := by decide +kernel
theorem dX11_open_5 : decode cX11_open 5 = .ok (.ifCond .eq 42, 3) := by decide +kernel
theorem dX11_open_8 : decode cX11_open 8 = .ok (.iload_n 2, 1) := by decide +kernel
theorem dX11_open_9 : decode cX11_open 9 = .ok (.i2l, 1) := by decide +kernel
theorem dX11_open_10 : decode cX11_open 10 = .ok (.lconst 0, 1) := by decide +kernel
theorem dX11_open_11 : decode cX11_open 11 = .ok (.ldc2_w 118, 3) := by decide +kernel
theorem dX11_open_14 : decode cX11_open 14 = .ok (.invokestatic 66, 3) := by decide +kernel
theorem dX11_open_17 : decode cX11_open 17 = .ok (.ifCond .eq 30, 3) := by decide +kernel
theorem dX11_open_20 : decode cX11_open 20 = .ok (.aload_n 0, 1) := by decide +kernel
theorem dX11_open_21 : decode cX11_open 21 = .ok (.iload_n 1, 1) := by decide +kernel
theorem dX11_open_22 : decode cX11_open 22 = .ok (.iload_n 2, 1) := by decide +kernel
theorem dX11_open_23 : decode cX11_open 23 = .ok (.aload_n 0, 1) := by decide +kernel
theorem dX11_open_24 : decode cX11_open 24 = .ok (.getfield 7, 3) := by decide +kernel
theorem dX11_open_27 : decode cX11_open 27 = .ok (.iconst 5, 1) := by decide +kernel
theorem dX11_open_28 : decode cX11_open 28 = .ok (.iload_n 1, 1) := by decide +kernel
theorem dX11_open_29 : decode cX11_open 29 = .ok (.imul, 1) := by decide +kernel
theorem dX11_open_30 : decode cX11_open 30 = .ok (.iconst 4, 1) := by decide +kernel
theorem dX11_open_31 : decode cX11_open 31 = .ok (.iadd, 1) := by decide +kernel
theorem dX11_open_32 : decode cX11_open 32 = .ok (.iaload, 1) := by decide +kernel
theorem dX11_open_33 : decode cX11_open 33 = .ok (.invokevirtual 120, 3) := by decide +kernel
theorem dX11_open_36 : decode cX11_open 36 = .ok (.ifCond .eq 7, 3) := by decide +kernel
theorem dX11_open_39 : decode cX11_open 39 = .ok (.iconst 1, 1) := by decide +kernel
theorem dX11_open_40 : decode cX11_open 40 = .ok (.goto 8, 3) := by decide +kernel
theorem dX11_open_43 : decode cX11_open 43 = .ok (.iconst 0, 1) := by decide +kernel
theorem dX11_open_44 : decode cX11_open 44 = .ok (.goto 4, 3) := by decide +kernel
theorem dX11_open_47 : decode cX11_open 47 = .ok (.iconst (-1), 1) := by decide +kernel
theorem dX11_open_48 : decode cX11_open 48 = .ok (.ireturn, 1) := by decide +kernel
theorem dX11_upwards_0 : decode cX11_upwards 0 = .ok (.iload_n 0, 1) := by decide +kernel
theorem dX11_upwards_1 : decode cX11_upwards 1 = .ok (.iload_n 1, 1) := by decide +kernel
theorem dX11_upwards_2 : decode cX11_upwards 2 = .ok (.iadd, 1) := by decide +kernel
theorem dX11_upwards_3 : decode cX11_upwards 3 = .ok (.iconst 1, 1) := by decide +kernel
theorem dX11_upwards_4 : decode cX11_upwards 4 = .ok (.isub, 1) := by decide +kernel
theorem dX11_upwards_5 : decode cX11_upwards 5 = .ok (.iload_n 1, 1) := by decide +kernel
theorem dX11_upwards_6 : decode cX11_upwards 6 = .ok (.idiv, 1) := by decide +kernel
theorem dX11_upwards_7 : decode cX11_upwards 7 = .ok (.ireturn, 1) := by decide +kernel
theorem dX11_passes_0 : decode cX11_passes 0 = .ok (.iload 4, 2) := by decide +kernel
theorem dX11_passes_2 : decode cX11_passes 2 = .ok (.aload_n 0, 1) := by decide +kernel
theorem dX11_passes_3 : decode cX11_passes 3 = .ok (.getfield 7, 3) := by decide +kernel
theorem dX11_passes_6 : decode cX11_passes 6 = .ok (.iconst 5, 1) := by decide +kernel
theorem dX11_passes_7 : decode cX11_passes 7 = .ok (.iload_n 2, 1) := by decide +kernel
theorem dX11_passes_8 : decode cX11_passes 8 = .ok (.imul, 1) := by decide +kernel
theorem dX11_passes_9 : decode cX11_passes 9 = .ok (.iconst 1, 1) := by decide +kernel
theorem dX11_passes_10 : decode cX11_passes 10 = .ok (.iadd, 1) := by decide +kernel
theorem dX11_passes_11 : decode cX11_passes 11 = .ok (.iaload, 1) := by decide +kernel
theorem dX11_passes_12 : decode cX11_passes 12 = .ok (.iload 5, 2) := by decide +kernel
theorem dX11_passes_14 : decode cX11_passes 14 = .ok (.invokestatic 123, 3) := by decide +kernel
theorem dX11_passes_17 : decode cX11_passes 17 = .ok (.iadd, 1) := by decide +kernel
theorem dX11_passes_18 : decode cX11_passes 18 = .ok (.istore 6, 2) := by decide +kernel
theorem dX11_passes_20 : decode cX11_passes 20 = .ok (.iload 6, 2) := by decide +kernel
theorem dX11_passes_22 : decode cX11_passes 22 = .ok (.aload_n 0, 1) := by decide +kernel
theorem dX11_passes_23 : decode cX11_passes 23 = .ok (.iload_n 1, 1) := by decide +kernel
theorem dX11_passes_24 : decode cX11_passes 24 = .ok (.invokevirtual 111, 3) := by decide +kernel
theorem dX11_passes_27 : decode cX11_passes 27 = .ok (.iload 5, 2) := by decide +kernel
theorem dX11_passes_29 : decode cX11_passes 29 = .ok (.invokestatic 123, 3) := by decide +kernel
theorem dX11_passes_32 : decode cX11_passes 32 = .ok (.iadd, 1) := by decide +kernel
theorem dX11_passes_33 : decode cX11_passes 33 = .ok (.istore 7, 2) := by decide +kernel
theorem dX11_passes_35 : decode cX11_passes 35 = .ok (.aload_n 0, 1) := by decide +kernel
theorem dX11_passes_36 : decode cX11_passes 36 = .ok (.iconst 0, 1) := by decide +kernel
theorem dX11_passes_37 : decode cX11_passes 37 = .ok (.putfield 127, 3) := by decide +kernel
theorem dX11_passes_40 : decode cX11_passes 40 = .ok (.aload_n 0, 1) := by decide +kernel
theorem dX11_passes_41 : decode cX11_passes 41 = .ok (.iload 7, 2) := by decide +kernel
theorem dX11_passes_43 : decode cX11_passes 43 = .ok (.putfield 130, 3) := by decide +kernel
theorem dX11_passes_46 : decode cX11_passes 46 = .ok (.iload 6, 2) := by decide +kernel
theorem dX11_passes_48 : decode cX11_passes 48 = .ok (.istore 8, 2) := by decide +kernel
theorem dX11_passes_50 : decode cX11_passes 50 = .ok (.iload 8, 2) := by decide +kernel
theorem dX11_passes_52 : decode cX11_passes 52 = .ok (.iload 7, 2) := by decide +kernel
theorem dX11_passes_54 : decode cX11_passes 54 = .ok (.if_icmp .ge 64, 3) := by decide +kernel
theorem dX11_passes_57 : decode cX11_passes 57 = .ok (.aload_n 0, 1) := by decide +kernel
theorem dX11_passes_58 : decode cX11_passes 58 = .ok (.getfield 127, 3) := by decide +kernel
theorem dX11_passes_61 : decode cX11_passes 61 = .ok (.ifCond .ne 57, 3) := by decide +kernel
theorem dX11_passes_64 : decode cX11_passes 64 = .ok (.aload_n 0, 1) := by decide +kernel
theorem dX11_passes_65 : decode cX11_passes 65 = .ok (.iload_n 2, 1) := by decide +kernel
theorem dX11_passes_66 : decode cX11_passes 66 = .ok (.iload 8, 2) := by decide +kernel
theorem dX11_passes_68 : decode cX11_passes 68 = .ok (.iload_n 3, 1) := by decide +kernel
theorem dX11_passes_69 : decode cX11_passes 69 = .ok (.invokevirtual 120, 3) := by decide +kernel
theorem dX11_passes_72 : decode cX11_passes 72 = .ok (.ifCond .ne 40, 3) := by decide +kernel
theorem dX11_passes_75 : decode cX11_passes 75 = .ok (.aload_n 0, 1) := by decide +kernel
theorem dX11_passes_76 : decode cX11_passes 76 = .ok (.iload 8, 2) := by decide +kernel
theorem dX11_passes_78 : decode cX11_passes 78 = .ok (.iload 7, 2) := by decide +kernel
theorem dX11_passes_80 : decode cX11_passes 80 = .ok (.iconst 1, 1) := by decide +kernel
theorem dX11_passes_81 : decode cX11_passes 81 = .ok (.isub, 1) := by decide +kernel
theorem dX11_passes_82 : decode cX11_passes 82 = .ok (.if_icmp .ne 7, 3) := by decide +kernel
theorem dX11_passes_85 : decode cX11_passes 85 = .ok (.iconst 1, 1) := by decide +kernel
theorem dX11_passes_86 : decode cX11_passes 86 = .ok (.goto 4, 3) := by decide +kernel
theorem dX11_passes_89 : decode cX11_passes 89 = .ok (.iconst 2, 1) := by decide +kernel
theorem dX11_passes_90 : decode cX11_passes 90 = .ok (.putfield 127, 3) := by decide +kernel
theorem dX11_passes_93 : decode cX11_passes 93 = .ok (.aload_n 0, 1) := by decide +kernel
theorem dX11_passes_94 : decode cX11_passes 94 = .ok (.aload_n 0, 1) := by decide +kernel
theorem dX11_passes_95 : decode cX11_passes 95 = .ok (.getfield 127, 3) := by decide +kernel
theorem dX11_passes_98 : decode cX11_passes 98 = .ok (.iconst 2, 1) := by decide +kernel
theorem dX11_passes_99 : decode cX11_passes 99 = .ok (.if_icmp .ne 8, 3) := by decide +kernel
theorem dX11_passes_102 : decode cX11_passes 102 = .ok (.iload 8, 2) := by decide +kernel
theorem dX11_passes_104 : decode cX11_passes 104 = .ok (.goto 5, 3) := by decide +kernel
theorem dX11_passes_107 : decode cX11_passes 107 = .ok (.iload 7, 2) := by decide +kernel
theorem dX11_passes_109 : decode cX11_passes 109 = .ok (.putfield 130, 3) := by decide +kernel
theorem dX11_passes_112 : decode cX11_passes 112 = .ok (.iinc 8 1, 3) := by decide +kernel
theorem dX11_passes_115 : decode cX11_passes 115 = .ok (.goto (-65), 3) := by decide +kernel
theorem dX11_passes_118 : decode cX11_passes 118 = .ok (.return_, 1) := by decide +kernel
theorem dX11_goes_0 : decode cX11_goes 0 = .ok (.aload_n 0, 1) := by decide +kernel
theorem dX11_goes_1 : decode cX11_goes 1 = .ok (.bipush (-4), 2) := by decide +kernel
theorem dX11_goes_3 : decode cX11_goes 3 = .ok (.putfield 133, 3) := by decide +kernel
theorem dX11_goes_6 : decode cX11_goes 6 = .ok (.aload_n 0, 1) := by decide +kernel
theorem dX11_goes_7 : decode cX11_goes 7 = .ok (.iconst 0, 1) := by decide +kernel
theorem dX11_goes_8 : decode cX11_goes 8 = .ok (.putfield 136, 3) := by decide +kernel
theorem dX11_goes_11 : decode cX11_goes 11 = .ok (.aload_n 0, 1) := by decide +kernel
theorem dX11_goes_12 : decode cX11_goes 12 = .ok (.iload_n 2, 1) := by decide +kernel
theorem dX11_goes_13 : decode cX11_goes 13 = .ok (.putfield 130, 3) := by decide +kernel
theorem dX11_goes_16 : decode cX11_goes 16 = .ok (.iconst 0, 1) := by decide +kernel
theorem dX11_goes_17 : decode cX11_goes 17 = .ok (.istore_n 3, 1) := by decide +kernel
theorem dX11_goes_18 : decode cX11_goes 18 = .ok (.iload_n 3, 1) := by decide +kernel
theorem dX11_goes_19 : decode cX11_goes 19 = .ok (.aload_n 0, 1) := by decide +kernel
theorem dX11_goes_20 : decode cX11_goes 20 = .ok (.getfield 63, 3) := by decide +kernel
theorem dX11_goes_23 : decode cX11_goes 23 = .ok (.if_icmp .ge 86, 3) := by decide +kernel
theorem dX11_goes_26 : decode cX11_goes 26 = .ok (.aload_n 0, 1) := by decide +kernel
theorem dX11_goes_27 : decode cX11_goes 27 = .ok (.getfield 133, 3) := by decide +kernel
theorem dX11_goes_30 : decode cX11_goes 30 = .ok (.bipush (-4), 2) := by decide +kernel
theorem dX11_goes_32 : decode cX11_goes 32 = .ok (.if_icmp .ne 77, 3) := by decide +kernel
theorem dX11_goes_35 : decode cX11_goes 35 = .ok (.aload_n 0, 1) := by decide +kernel
theorem dX11_goes_36 : decode cX11_goes 36 = .ok (.iload_n 1, 1) := by decide +kernel
theorem dX11_goes_37 : decode cX11_goes 37 = .ok (.iload_n 3, 1) := by decide +kernel
theorem dX11_goes_38 : decode cX11_goes 38 = .ok (.aload_n 0, 1) := by decide +kernel
theorem dX11_goes_39 : decode cX11_goes 39 = .ok (.getfield 7, 3) := by decide +kernel
theorem dX11_goes_42 : decode cX11_goes 42 = .ok (.iconst 5, 1) := by decide +kernel
theorem dX11_goes_43 : decode cX11_goes 43 = .ok (.iload_n 3, 1) := by decide +kernel
theorem dX11_goes_44 : decode cX11_goes 44 = .ok (.imul, 1) := by decide +kernel
theorem dX11_goes_45 : decode cX11_goes 45 = .ok (.iconst 4, 1) := by decide +kernel
theorem dX11_goes_46 : decode cX11_goes 46 = .ok (.iadd, 1) := by decide +kernel
theorem dX11_goes_47 : decode cX11_goes 47 = .ok (.iaload, 1) := by decide +kernel
theorem dX11_goes_48 : decode cX11_goes 48 = .ok (.aload_n 0, 1) := by decide +kernel
theorem dX11_goes_49 : decode cX11_goes 49 = .ok (.getfield 130, 3) := by decide +kernel
theorem dX11_goes_52 : decode cX11_goes 52 = .ok (.aload_n 0, 1) := by decide +kernel
theorem dX11_goes_53 : decode cX11_goes 53 = .ok (.getfield 23, 3) := by decide +kernel
theorem dX11_goes_56 : decode cX11_goes 56 = .ok (.iload_n 3, 1) := by decide +kernel
theorem dX11_goes_57 : decode cX11_goes 57 = .ok (.iaload, 1) := by decide +kernel
theorem dX11_goes_58 : decode cX11_goes 58 = .ok (.invokevirtual 139, 3) := by decide +kernel
theorem dX11_goes_61 : decode cX11_goes 61 = .ok (.aload_n 0, 1) := by decide +kernel
theorem dX11_goes_62 : decode cX11_goes 62 = .ok (.aload_n 0, 1) := by decide +kernel
theorem dX11_goes_63 : decode cX11_goes 63 = .ok (.getfield 127, 3) := by decide +kernel
theorem dX11_goes_66 : decode cX11_goes 66 = .ok (.iconst 2, 1) := by decide +kernel
theorem dX11_goes_67 : decode cX11_goes 67 = .ok (.if_icmp .ne 7, 3) := by decide +kernel
theorem dX11_goes_70 : decode cX11_goes 70 = .ok (.iload_n 3, 1) := by decide +kernel
theorem dX11_goes_71 : decode cX11_goes 71 = .ok (.goto 5, 3) := by decide +kernel
theorem dX11_goes_74 : decode cX11_goes 74 = .ok (.bipush (-4), 2) := by decide +kernel
theorem dX11_goes_76 : decode cX11_goes 76 = .ok (.putfield 133, 3) := by decide +kernel
theorem dX11_goes_79 : decode cX11_goes 79 = .ok (.aload_n 0, 1) := by decide +kernel
theorem dX11_goes_80 : decode cX11_goes 80 = .ok (.dup, 1) := by decide +kernel
theorem dX11_goes_81 : decode cX11_goes 81 = .ok (.getfield 136, 3) := by decide +kernel
theorem dX11_goes_84 : decode cX11_goes 84 = .ok (.aload_n 0, 1) := by decide +kernel
theorem dX11_goes_85 : decode cX11_goes 85 = .ok (.getfield 127, 3) := by decide +kernel
theorem dX11_goes_88 : decode cX11_goes 88 = .ok (.iconst 1, 1) := by decide +kernel
theorem dX11_goes_89 : decode cX11_goes 89 = .ok (.if_icmp .ne 9, 3) := by decide +kernel
theorem dX11_goes_92 : decode cX11_goes 92 = .ok (.iconst 1, 1) := by decide +kernel
theorem dX11_goes_93 : decode cX11_goes 93 = .ok (.iload_n 3, 1) := by decide +kernel
theorem dX11_goes_94 : decode cX11_goes 94 = .ok (.ishl, 1) := by decide +kernel
theorem dX11_goes_95 : decode cX11_goes 95 = .ok (.goto 4, 3) := by decide +kernel
theorem dX11_goes_98 : decode cX11_goes 98 = .ok (.iconst 0, 1) := by decide +kernel
theorem dX11_goes_99 : decode cX11_goes 99 = .ok (.ior, 1) := by decide +kernel
theorem dX11_goes_100 : decode cX11_goes 100 = .ok (.putfield 136, 3) := by decide +kernel
theorem dX11_goes_103 : decode cX11_goes 103 = .ok (.iinc 3 1, 3) := by decide +kernel
theorem dX11_goes_106 : decode cX11_goes 106 = .ok (.goto (-88), 3) := by decide +kernel
theorem dX11_goes_109 : decode cX11_goes 109 = .ok (.return_, 1) := by decide +kernel
theorem dX11_goesFull_0 : decode cX11_goesFull 0 = .ok (.iconst 0, 1) := by decide +kernel
theorem dX11_goesFull_1 : decode cX11_goesFull 1 = .ok (.istore_n 3, 1) := by decide +kernel
theorem dX11_goesFull_2 : decode cX11_goesFull 2 = .ok (.iload_n 3, 1) := by decide +kernel
theorem dX11_goesFull_3 : decode cX11_goesFull 3 = .ok (.aload_n 0, 1) := by decide +kernel
theorem dX11_goesFull_4 : decode cX11_goesFull 4 = .ok (.getfield 63, 3) := by decide +kernel
theorem dX11_goesFull_7 : decode cX11_goesFull 7 = .ok (.if_icmp .ge 20, 3) := by decide +kernel
theorem dX11_goesFull_10 : decode cX11_goesFull 10 = .ok (.aload_n 0, 1) := by decide +kernel
theorem dX11_goesFull_11 : decode cX11_goesFull 11 = .ok (.getfield 23, 3) := by decide +kernel
theorem dX11_goesFull_14 : decode cX11_goesFull 14 = .ok (.iload_n 3, 1) := by decide +kernel
theorem dX11_goesFull_15 : decode cX11_goesFull 15 = .ok (.aload_n 0, 1) := by decide +kernel
theorem dX11_goesFull_16 : decode cX11_goesFull 16 = .ok (.iload_n 1, 1) := by decide +kernel
theorem dX11_goesFull_17 : decode cX11_goesFull 17 = .ok (.invokevirtual 101, 3) := by decide +kernel
theorem dX11_goesFull_20 : decode cX11_goesFull 20 = .ok (.iastore, 1) := by decide +kernel
theorem dX11_goesFull_21 : decode cX11_goesFull 21 = .ok (.iinc 3 1, 3) := by decide +kernel
theorem dX11_goesFull_24 : decode cX11_goesFull 24 = .ok (.goto (-22), 3) := by decide +kernel
theorem dX11_goesFull_27 : decode cX11_goesFull 27 = .ok (.aload_n 0, 1) := by decide +kernel
theorem dX11_goesFull_28 : decode cX11_goesFull 28 = .ok (.iload_n 1, 1) := by decide +kernel
theorem dX11_goesFull_29 : decode cX11_goesFull 29 = .ok (.iload_n 2, 1) := by decide +kernel
theorem dX11_goesFull_30 : decode cX11_goesFull 30 = .ok (.invokevirtual 142, 3) := by decide +kernel
theorem dX11_goesFull_33 : decode cX11_goesFull 33 = .ok (.return_, 1) := by decide +kernel
theorem dX11_isClean_0 : decode cX11_isClean 0 = .ok (.aload_n 0, 1) := by decide +kernel
theorem dX11_isClean_1 : decode cX11_isClean 1 = .ok (.getfield 133, 3) := by decide +kernel
theorem dX11_isClean_4 : decode cX11_isClean 4 = .ok (.bipush (-4), 2) := by decide +kernel
theorem dX11_isClean_6 : decode cX11_isClean 6 = .ok (.if_icmp .ne 14, 3) := by decide +kernel
theorem dX11_isClean_9 : decode cX11_isClean 9 = .ok (.aload_n 0, 1) := by decide +kernel
theorem dX11_isClean_10 : decode cX11_isClean 10 = .ok (.getfield 136, 3) := by decide +kernel
theorem dX11_isClean_13 : decode cX11_isClean 13 = .ok (.ifCond .ne 7, 3) := by decide +kernel
theorem dX11_isClean_16 : decode cX11_isClean 16 = .ok (.iconst 1, 1) := by decide +kernel
theorem dX11_isClean_17 : decode cX11_isClean 17 = .ok (.goto 4, 3) := by decide +kernel
theorem dX11_isClean_20 : decode cX11_isClean 20 = .ok (.iconst 0, 1) := by decide +kernel
theorem dX11_isClean_21 : decode cX11_isClean 21 = .ok (.ireturn, 1) := by decide +kernel
theorem dX11_type_0 : decode cX11_type 0 = .ok (.iload_n 1, 1) := by decide +kernel
theorem dX11_type_1 : decode cX11_type 1 = .ok (.i2l, 1) := by decide +kernel
theorem dX11_type_2 : decode cX11_type 2 = .ok (.ldc2_w 146, 3) := by decide +kernel
theorem dX11_type_5 : decode cX11_type 5 = .ok (.ldc2_w 148, 3) := by decide +kernel
theorem dX11_type_8 : decode cX11_type 8 = .ok (.invokestatic 66, 3) := by decide +kernel
theorem dX11_type_11 : decode cX11_type 11 = .ok (.ifCond .ne 5, 3) := by decide +kernel
theorem dX11_type_14 : decode cX11_type 14 = .ok (.iconst (-1), 1) := by decide +kernel
theorem dX11_type_15 : decode cX11_type 15 = .ok (.ireturn, 1) := by decide +kernel
theorem dX11_type_16 : decode cX11_type 16 = .ok (.aload_n 0, 1) := by decide +kernel
theorem dX11_type_17 : decode cX11_type 17 = .ok (.getfield 150, 3) := by decide +kernel
theorem dX11_type_20 : decode cX11_type 20 = .ok (.bipush 100, 2) := by decide +kernel
theorem dX11_type_22 : decode cX11_type 22 = .ok (.if_icmp .ne 6, 3) := by decide +kernel
theorem dX11_type_25 : decode cX11_type 25 = .ok (.bipush (-3), 2) := by decide +kernel
theorem dX11_type_27 : decode cX11_type 27 = .ok (.ireturn, 1) := by decide +kernel
theorem dX11_type_28 : decode cX11_type 28 = .ok (.aload_n 0, 1) := by decide +kernel
theorem dX11_type_29 : decode cX11_type 29 = .ok (.getfield 26, 3) := by decide +kernel
theorem dX11_type_32 : decode cX11_type 32 = .ok (.aload_n 0, 1) := by decide +kernel
theorem dX11_type_33 : decode cX11_type 33 = .ok (.getfield 150, 3) := by decide +kernel
theorem dX11_type_36 : decode cX11_type 36 = .ok (.iload_n 1, 1) := by decide +kernel
theorem dX11_type_37 : decode cX11_type 37 = .ok (.iastore, 1) := by decide +kernel
theorem dX11_type_38 : decode cX11_type 38 = .ok (.aload_n 0, 1) := by decide +kernel
theorem dX11_type_39 : decode cX11_type 39 = .ok (.dup, 1) := by decide +kernel
theorem dX11_type_40 : decode cX11_type 40 = .ok (.getfield 150, 3) := by decide +kernel
theorem dX11_type_43 : decode cX11_type 43 = .ok (.iconst 1, 1) := by decide +kernel
theorem dX11_type_44 : decode cX11_type 44 = .ok (.iadd, 1) := by decide +kernel
theorem dX11_type_45 : decode cX11_type 45 = .ok (.putfield 150, 3) := by decide +kernel
theorem dX11_type_48 : decode cX11_type 48 = .ok (.aload_n 0, 1) := by decide +kernel
theorem dX11_type_49 : decode cX11_type 49 = .ok (.getfield 150, 3) := by decide +kernel
theorem dX11_type_52 : decode cX11_type 52 = .ok (.ireturn, 1) := by decide +kernel
theorem dX11_here_0 : decode cX11_here 0 = .ok (.aload_n 0, 1) := by decide +kernel
theorem dX11_here_1 : decode cX11_here 1 = .ok (.getfield 153, 3) := by decide +kernel
theorem dX11_here_4 : decode cX11_here 4 = .ok (.aload_n 0, 1) := by decide +kernel
theorem dX11_here_5 : decode cX11_here 5 = .ok (.getfield 150, 3) := by decide +kernel
theorem dX11_here_8 : decode cX11_here 8 = .ok (.if_icmp .ge 30, 3) := by decide +kernel
theorem dX11_here_11 : decode cX11_here 11 = .ok (.aload_n 0, 1) := by decide +kernel
theorem dX11_here_12 : decode cX11_here 12 = .ok (.getfield 26, 3) := by decide +kernel
theorem dX11_here_15 : decode cX11_here 15 = .ok (.aload_n 0, 1) := by decide +kernel
theorem dX11_here_16 : decode cX11_here 16 = .ok (.getfield 153, 3) := by decide +kernel
theorem dX11_here_19 : decode cX11_here 19 = .ok (.iaload, 1) := by decide +kernel
theorem dX11_here_20 : decode cX11_here 20 = .ok (.bipush 32, 2) := by decide +kernel
theorem dX11_here_22 : decode cX11_here 22 = .ok (.if_icmp .ne 16, 3) := by decide +kernel
theorem dX11_here_25 : decode cX11_here 25 = .ok (.aload_n 0, 1) := by decide +kernel
theorem dX11_here_26 : decode cX11_here 26 = .ok (.dup, 1) := by decide +kernel
theorem dX11_here_27 : decode cX11_here 27 = .ok (.getfield 153, 3) := by decide +kernel
theorem dX11_here_30 : decode cX11_here 30 = .ok (.iconst 1, 1) := by decide +kernel
theorem dX11_here_31 : decode cX11_here 31 = .ok (.iadd, 1) := by decide +kernel
theorem dX11_here_32 : decode cX11_here 32 = .ok (.putfield 153, 3) := by decide +kernel
theorem dX11_here_35 : decode cX11_here 35 = .ok (.goto (-35), 3) := by decide +kernel
theorem dX11_here_38 : decode cX11_here 38 = .ok (.aload_n 0, 1) := by decide +kernel
theorem dX11_here_39 : decode cX11_here 39 = .ok (.getfield 153, 3) := by decide +kernel
theorem dX11_here_42 : decode cX11_here 42 = .ok (.aload_n 0, 1) := by decide +kernel
theorem dX11_here_43 : decode cX11_here 43 = .ok (.getfield 150, 3) := by decide +kernel
theorem dX11_here_46 : decode cX11_here 46 = .ok (.if_icmp .ge 15, 3) := by decide +kernel
theorem dX11_here_49 : decode cX11_here 49 = .ok (.aload_n 0, 1) := by decide +kernel
theorem dX11_here_50 : decode cX11_here 50 = .ok (.getfield 26, 3) := by decide +kernel
theorem dX11_here_53 : decode cX11_here 53 = .ok (.aload_n 0, 1) := by decide +kernel
theorem dX11_here_54 : decode cX11_here 54 = .ok (.getfield 153, 3) := by decide +kernel
theorem dX11_here_57 : decode cX11_here 57 = .ok (.iaload, 1) := by decide +kernel
theorem dX11_here_58 : decode cX11_here 58 = .ok (.goto 4, 3) := by decide +kernel
theorem dX11_here_61 : decode cX11_here 61 = .ok (.iconst 0, 1) := by decide +kernel
theorem dX11_here_62 : decode cX11_here 62 = .ok (.ireturn, 1) := by decide +kernel
theorem dX11_has_0 : decode cX11_has 0 = .ok (.aload_n 0, 1) := by decide +kernel
theorem dX11_has_1 : decode cX11_has 1 = .ok (.getfield 156, 3) := by decide +kernel
theorem dX11_has_4 : decode cX11_has 4 = .ok (.ifCond .ne 15, 3) := by decide +kernel
theorem dX11_has_7 : decode cX11_has 7 = .ok (.aload_n 0, 1) := by decide +kernel
theorem dX11_has_8 : decode cX11_has 8 = .ok (.invokevirtual 160, 3) := by decide +kernel
theorem dX11_has_11 : decode cX11_has 11 = .ok (.iload_n 1, 1) := by decide +kernel
theorem dX11_has_12 : decode cX11_has 12 = .ok (.if_icmp .ne 7, 3) := by decide +kernel
theorem dX11_has_15 : decode cX11_has 15 = .ok (.iconst 1, 1) := by decide +kernel
theorem dX11_has_16 : decode cX11_has 16 = .ok (.goto 4, 3) := by decide +kernel
theorem dX11_has_19 : decode cX11_has 19 = .ok (.iconst 0, 1) := by decide +kernel
theorem dX11_has_20 : decode cX11_has 20 = .ok (.istore_n 2, 1) := by decide +kernel
theorem dX11_has_21 : decode cX11_has 21 = .ok (.aload_n 0, 1) := by decide +kernel
theorem dX11_has_22 : decode cX11_has 22 = .ok (.dup, 1) := by decide +kernel
theorem dX11_has_23 : decode cX11_has 23 = .ok (.getfield 153, 3) := by decide +kernel
theorem dX11_has_26 : decode cX11_has 26 = .ok (.iload_n 2, 1) := by decide +kernel
theorem dX11_has_27 : decode cX11_has 27 = .ok (.ifCond .eq 7, 3) := by decide +kernel
theorem dX11_has_30 : decode cX11_has 30 = .ok (.iconst 1, 1) := by decide +kernel
theorem dX11_has_31 : decode cX11_has 31 = .ok (.goto 4, 3) := by decide +kernel
theorem dX11_has_34 : decode cX11_has 34 = .ok (.iconst 0, 1) := by decide +kernel
theorem dX11_has_35 : decode cX11_has 35 = .ok (.iadd, 1) := by decide +kernel
theorem dX11_has_36 : decode cX11_has 36 = .ok (.putfield 153, 3) := by decide +kernel
theorem dX11_has_39 : decode cX11_has 39 = .ok (.iload_n 2, 1) := by decide +kernel
theorem dX11_has_40 : decode cX11_has 40 = .ok (.ireturn, 1) := by decide +kernel
theorem dX11_must_0 : decode cX11_must 0 = .ok (.aload_n 0, 1) := by decide +kernel
theorem dX11_must_1 : decode cX11_must 1 = .ok (.aload_n 0, 1) := by decide +kernel
theorem dX11_must_2 : decode cX11_must 2 = .ok (.getfield 156, 3) := by decide +kernel
theorem dX11_must_5 : decode cX11_must 5 = .ok (.ifCond .ne 11, 3) := by decide +kernel
theorem dX11_must_8 : decode cX11_must 8 = .ok (.aload_n 0, 1) := by decide +kernel
theorem dX11_must_9 : decode cX11_must 9 = .ok (.iload_n 1, 1) := by decide +kernel
theorem dX11_must_10 : decode cX11_must 10 = .ok (.invokevirtual 164, 3) := by decide +kernel
theorem dX11_must_13 : decode cX11_must 13 = .ok (.ifCond .ne 7, 3) := by decide +kernel
theorem dX11_must_16 : decode cX11_must 16 = .ok (.iconst 1, 1) := by decide +kernel
theorem dX11_must_17 : decode cX11_must 17 = .ok (.goto 4, 3) := by decide +kernel
theorem dX11_must_20 : decode cX11_must 20 = .ok (.iconst 0, 1) := by decide +kernel
theorem dX11_must_21 : decode cX11_must 21 = .ok (.putfield 156, 3) := by decide +kernel
theorem dX11_must_24 : decode cX11_must 24 = .ok (.return_, 1) := by decide +kernel
theorem dX11_number_0 : decode cX11_number 0 = .ok (.aload_n 0, 1) := by decide +kernel
theorem dX11_number_1 : decode cX11_number 1 = .ok (.getfield 156, 3) := by decide +kernel
theorem dX11_number_4 : decode cX11_number 4 = .ok (.ifCond .ne 20, 3) := by decide +kernel
theorem dX11_number_7 : decode cX11_number 7 = .ok (.aload_n 0, 1) := by decide +kernel
theorem dX11_number_8 : decode cX11_number 8 = .ok (.invokevirtual 160, 3) := by decide +kernel
theorem dX11_number_11 : decode cX11_number 11 = .ok (.i2l, 1) := by decide +kernel
theorem dX11_number_12 : decode cX11_number 12 = .ok (.ldc2_w 167, 3) := by decide +kernel
theorem dX11_number_15 : decode cX11_number 15 = .ok (.ldc2_w 169, 3) := by decide +kernel
theorem dX11_number_18 : decode cX11_number 18 = .ok (.invokestatic 66, 3) := by decide +kernel
theorem dX11_number_21 : decode cX11_number 21 = .ok (.ifCond .ne 10, 3) := by decide +kernel
theorem dX11_number_24 : decode cX11_number 24 = .ok (.aload_n 0, 1) := by decide +kernel
theorem dX11_number_25 : decode cX11_number 25 = .ok (.iconst 1, 1) := by decide +kernel
theorem dX11_number_26 : decode cX11_number 26 = .ok (.putfield 156, 3) := by decide +kernel
theorem dX11_number_29 : decode cX11_number 29 = .ok (.iconst 0, 1) := by decide +kernel
theorem dX11_number_30 : decode cX11_number 30 = .ok (.ireturn, 1) := by decide +kernel
theorem dX11_number_31 : decode cX11_number 31 = .ok (.aload_n 0, 1) := by decide +kernel
theorem dX11_number_32 : decode cX11_number 32 = .ok (.getfield 153, 3) := by decide +kernel
theorem dX11_number_35 : decode cX11_number 35 = .ok (.istore_n 3, 1) := by decide +kernel
theorem dX11_number_36 : decode cX11_number 36 = .ok (.iconst 0, 1) := by decide +kernel
theorem dX11_number_37 : decode cX11_number 37 = .ok (.istore 4, 2) := by decide +kernel
theorem dX11_number_39 : decode cX11_number 39 = .ok (.aload_n 0, 1) := by decide +kernel
theorem dX11_number_40 : decode cX11_number 40 = .ok (.getfield 153, 3) := by decide +kernel
theorem dX11_number_43 : decode cX11_number 43 = .ok (.aload_n 0, 1) := by decide +kernel
theorem dX11_number_44 : decode cX11_number 44 = .ok (.getfield 150, 3) := by decide +kernel
theorem dX11_number_47 : decode cX11_number 47 = .ok (.if_icmp .ge 71, 3) := by decide +kernel
theorem dX11_number_50 : decode cX11_number 50 = .ok (.aload_n 0, 1) := by decide +kernel
theorem dX11_number_51 : decode cX11_number 51 = .ok (.getfield 26, 3) := by decide +kernel
theorem dX11_number_54 : decode cX11_number 54 = .ok (.aload_n 0, 1) := by decide +kernel
theorem dX11_number_55 : decode cX11_number 55 = .ok (.getfield 153, 3) := by decide +kernel
theorem dX11_number_58 : decode cX11_number 58 = .ok (.iaload, 1) := by decide +kernel
theorem dX11_number_59 : decode cX11_number 59 = .ok (.i2l, 1) := by decide +kernel
theorem dX11_number_60 : decode cX11_number 60 = .ok (.ldc2_w 167, 3) := by decide +kernel
theorem dX11_number_63 : decode cX11_number 63 = .ok (.ldc2_w 169, 3) := by decide +kernel
theorem dX11_number_66 : decode cX11_number 66 = .ok (.invokestatic 66, 3) := by decide +kernel
theorem dX11_number_69 : decode cX11_number 69 = .ok (.ifCond .eq 49, 3) := by decide +kernel
theorem dX11_number_72 : decode cX11_number 72 = .ok (.iload 4, 2) := by decide +kernel
theorem dX11_number_74 : decode cX11_number 74 = .ok (.sipush 9999, 3) := by decide +kernel
theorem dX11_number_77 : decode cX11_number 77 = .ok (.if_icmp .le 8, 3) := by decide +kernel
theorem dX11_number_80 : decode cX11_number 80 = .ok (.iload 4, 2) := by decide +kernel
theorem dX11_number_82 : decode cX11_number 82 = .ok (.goto 21, 3) := by decide +kernel
theorem dX11_number_85 : decode cX11_number 85 = .ok (.bipush 10, 2) := by decide +kernel
theorem dX11_number_87 : decode cX11_number 87 = .ok (.iload 4, 2) := by decide +kernel
theorem dX11_number_89 : decode cX11_number 89 = .ok (.imul, 1) := by decide +kernel
theorem dX11_number_90 : decode cX11_number 90 = .ok (.aload_n 0, 1) := by decide +kernel
theorem dX11_number_91 : decode cX11_number 91 = .ok (.getfield 26, 3) := by decide +kernel
theorem dX11_number_94 : decode cX11_number 94 = .ok (.aload_n 0, 1) := by decide +kernel
theorem dX11_number_95 : decode cX11_number 95 = .ok (.getfield 153, 3) := by decide +kernel
theorem dX11_number_98 : decode cX11_number 98 = .ok (.iaload, 1) := by decide +kernel
theorem dX11_number_99 : decode cX11_number 99 = .ok (.iadd, 1) := by decide +kernel
theorem dX11_number_100 : decode cX11_number 100 = .ok (.bipush 48, 2) := by decide +kernel
theorem dX11_number_102 : decode cX11_number 102 = .ok (.isub, 1) := by decide +kernel
theorem dX11_number_103 : decode cX11_number 103 = .ok (.istore 4, 2) := by decide +kernel
theorem dX11_number_105 : decode cX11_number 105 = .ok (.aload_n 0, 1) := by decide +kernel
theorem dX11_number_106 : decode cX11_number 106 = .ok (.dup, 1) := by decide +kernel
theorem dX11_number_107 : decode cX11_number 107 = .ok (.getfield 153, 3) := by decide +kernel
theorem dX11_number_110 : decode cX11_number 110 = .ok (.iconst 1, 1) := by decide +kernel
theorem dX11_number_111 : decode cX11_number 111 = .ok (.iadd, 1) := by decide +kernel
theorem dX11_number_112 : decode cX11_number 112 = .ok (.putfield 153, 3) := by decide +kernel
theorem dX11_number_115 : decode cX11_number 115 = .ok (.goto (-76), 3) := by decide +kernel
theorem dX11_number_118 : decode cX11_number 118 = .ok (.aload_n 0, 1) := by decide +kernel
theorem dX11_number_119 : decode cX11_number 119 = .ok (.iload 4, 2) := by decide +kernel
theorem dX11_number_121 : decode cX11_number 121 = .ok (.i2l, 1) := by decide +kernel
theorem dX11_number_122 : decode cX11_number 122 = .ok (.iload_n 1, 1) := by decide +kernel
theorem dX11_number_123 : decode cX11_number 123 = .ok (.i2l, 1) := by decide +kernel
theorem dX11_number_124 : decode cX11_number 124 = .ok (.iload_n 2, 1) := by decide +kernel
theorem dX11_number_125 : decode cX11_number 125 = .ok (.i2l, 1) := by decide +kernel
theorem dX11_number_126 : decode cX11_number 126 = .ok (.invokestatic 66, 3) := by decide +kernel
theorem dX11_number_129 : decode cX11_number 129 = .ok (.ifCond .ne 7, 3) := by decide +kernel
theorem dX11_number_132 : decode cX11_number 132 = .ok (.iconst 1, 1) := by decide +kernel
theorem dX11_number_133 : decode cX11_number 133 = .ok (.goto 4, 3) := by decide +kernel
theorem dX11_number_136 : decode cX11_number 136 = .ok (.iconst 0, 1) := by decide +kernel
theorem dX11_number_137 : decode cX11_number 137 = .ok (.putfield 156, 3) := by decide +kernel
theorem dX11_number_140 : decode cX11_number 140 = .ok (.aload_n 0, 1) := by decide +kernel
theorem dX11_number_141 : decode cX11_number 141 = .ok (.aload_n 0, 1) := by decide +kernel
theorem dX11_number_142 : decode cX11_number 142 = .ok (.getfield 156, 3) := by decide +kernel
theorem dX11_number_145 : decode cX11_number 145 = .ok (.ifCond .eq 7, 3) := by decide +kernel
theorem dX11_number_148 : decode cX11_number 148 = .ok (.iload_n 3, 1) := by decide +kernel
theorem dX11_number_149 : decode cX11_number 149 = .ok (.goto 7, 3) := by decide +kernel
theorem dX11_number_152 : decode cX11_number 152 = .ok (.aload_n 0, 1) := by decide +kernel
theorem dX11_number_153 : decode cX11_number 153 = .ok (.getfield 153, 3) := by decide +kernel
theorem dX11_number_156 : decode cX11_number 156 = .ok (.putfield 153, 3) := by decide +kernel
theorem dX11_number_159 : decode cX11_number 159 = .ok (.iload 4, 2) := by decide +kernel
theorem dX11_number_161 : decode cX11_number 161 = .ok (.ireturn, 1) := by decide +kernel
theorem dX11_letter_0 : decode cX11_letter 0 = .ok (.aload_n 0, 1) := by decide +kernel
theorem dX11_letter_1 : decode cX11_letter 1 = .ok (.getfield 156, 3) := by decide +kernel
theorem dX11_letter_4 : decode cX11_letter 4 = .ok (.ifCond .eq 7, 3) := by decide +kernel
theorem dX11_letter_7 : decode cX11_letter 7 = .ok (.iconst 0, 1) := by decide +kernel
theorem dX11_letter_8 : decode cX11_letter 8 = .ok (.goto 7, 3) := by decide +kernel
theorem dX11_letter_11 : decode cX11_letter 11 = .ok (.aload_n 0, 1) := by decide +kernel
theorem dX11_letter_12 : decode cX11_letter 12 = .ok (.invokevirtual 160, 3) := by decide +kernel
theorem dX11_letter_15 : decode cX11_letter 15 = .ok (.istore 5, 2) := by decide +kernel
theorem dX11_letter_17 : decode cX11_letter 17 = .ok (.iload 5, 2) := by decide +kernel
theorem dX11_letter_19 : decode cX11_letter 19 = .ok (.iload_n 1, 1) := by decide +kernel
theorem dX11_letter_20 : decode cX11_letter 20 = .ok (.if_icmp .ne 7, 3) := by decide +kernel
theorem dX11_letter_23 : decode cX11_letter 23 = .ok (.iconst 0, 1) := by decide +kernel
theorem dX11_letter_24 : decode cX11_letter 24 = .ok (.goto 36, 3) := by decide +kernel
theorem dX11_letter_27 : decode cX11_letter 27 = .ok (.iload 5, 2) := by decide +kernel
theorem dX11_letter_29 : decode cX11_letter 29 = .ok (.iload_n 2, 1) := by decide +kernel
theorem dX11_letter_30 : decode cX11_letter 30 = .ok (.if_icmp .ne 7, 3) := by decide +kernel
theorem dX11_letter_33 : decode cX11_letter 33 = .ok (.iconst 1, 1) := by decide +kernel
theorem dX11_letter_34 : decode cX11_letter 34 = .ok (.goto 26, 3) := by decide +kernel
theorem dX11_letter_37 : decode cX11_letter 37 = .ok (.iload 5, 2) := by decide +kernel
theorem dX11_letter_39 : decode cX11_letter 39 = .ok (.iload_n 3, 1) := by decide +kernel
theorem dX11_letter_40 : decode cX11_letter 40 = .ok (.if_icmp .ne 7, 3) := by decide +kernel
theorem dX11_letter_43 : decode cX11_letter 43 = .ok (.iconst 2, 1) := by decide +kernel
theorem dX11_letter_44 : decode cX11_letter 44 = .ok (.goto 16, 3) := by decide +kernel
theorem dX11_letter_47 : decode cX11_letter 47 = .ok (.iload 5, 2) := by decide +kernel
theorem dX11_letter_49 : decode cX11_letter 49 = .ok (.iload 4, 2) := by decide +kernel
theorem dX11_letter_51 : decode cX11_letter 51 = .ok (.if_icmp .ne 7, 3) := by decide +kernel
theorem dX11_letter_54 : decode cX11_letter 54 = .ok (.iconst 3, 1) := by decide +kernel
theorem dX11_letter_55 : decode cX11_letter 55 = .ok (.goto 5, 3) := by decide +kernel
theorem dX11_letter_58 : decode cX11_letter 58 = .ok (.bipush (-4), 2) := by decide +kernel
theorem dX11_letter_60 : decode cX11_letter 60 = .ok (.istore 6, 2) := by decide +kernel
theorem dX11_letter_62 : decode cX11_letter 62 = .ok (.aload_n 0, 1) := by decide +kernel
theorem dX11_letter_63 : decode cX11_letter 63 = .ok (.aload_n 0, 1) := by decide +kernel
theorem dX11_letter_64 : decode cX11_letter 64 = .ok (.getfield 156, 3) := by decide +kernel
theorem dX11_letter_67 : decode cX11_letter 67 = .ok (.ifCond .ne 8, 3) := by decide +kernel
theorem dX11_letter_70 : decode cX11_letter 70 = .ok (.iload 6, 2) := by decide +kernel
theorem dX11_letter_72 : decode cX11_letter 72 = .ok (.ifCond .ge 7, 3) := by decide +kernel
theorem dX11_letter_75 : decode cX11_letter 75 = .ok (.iconst 1, 1) := by decide +kernel
theorem dX11_letter_76 : decode cX11_letter 76 = .ok (.goto 4, 3) := by decide +kernel
theorem dX11_letter_79 : decode cX11_letter 79 = .ok (.iconst 0, 1) := by decide +kernel
theorem dX11_letter_80 : decode cX11_letter 80 = .ok (.putfield 156, 3) := by decide +kernel
theorem dX11_letter_83 : decode cX11_letter 83 = .ok (.aload_n 0, 1) := by decide +kernel
theorem dX11_letter_84 : decode cX11_letter 84 = .ok (.dup, 1) := by decide +kernel
theorem dX11_letter_85 : decode cX11_letter 85 = .ok (.getfield 153, 3) := by decide +kernel
theorem dX11_letter_88 : decode cX11_letter 88 = .ok (.aload_n 0, 1) := by decide +kernel
theorem dX11_letter_89 : decode cX11_letter 89 = .ok (.getfield 156, 3) := by decide +kernel
theorem dX11_letter_92 : decode cX11_letter 92 = .ok (.ifCond .eq 7, 3) := by decide +kernel
theorem dX11_letter_95 : decode cX11_letter 95 = .ok (.iconst 0, 1) := by decide +kernel
theorem dX11_letter_96 : decode cX11_letter 96 = .ok (.goto 4, 3) := by decide +kernel
theorem dX11_letter_99 : decode cX11_letter 99 = .ok (.iconst 1, 1) := by decide +kernel
theorem dX11_letter_100 : decode cX11_letter 100 = .ok (.iadd, 1) := by decide +kernel
theorem dX11_letter_101 : decode cX11_letter 101 = .ok (.putfield 153, 3) := by decide +kernel
theorem dX11_letter_104 : decode cX11_letter 104 = .ok (.iload 6, 2) := by decide +kernel
theorem dX11_letter_106 : decode cX11_letter 106 = .ok (.ireturn, 1) := by decide +kernel
theorem dX11_digit_0 : decode cX11_digit 0 = .ok (.aload_n 0, 1) := by decide +kernel
theorem dX11_digit_1 : decode cX11_digit 1 = .ok (.getfield 156, 3) := by decide +kernel
theorem dX11_digit_4 : decode cX11_digit 4 = .ok (.ifCond .eq 7, 3) := by decide +kernel
theorem dX11_digit_7 : decode cX11_digit 7 = .ok (.iconst 0, 1) := by decide +kernel
theorem dX11_digit_8 : decode cX11_digit 8 = .ok (.goto 10, 3) := by decide +kernel
theorem dX11_digit_11 : decode cX11_digit 11 = .ok (.aload_n 0, 1) := by decide +kernel
theorem dX11_digit_12 : decode cX11_digit 12 = .ok (.invokevirtual 160, 3) := by decide +kernel
theorem dX11_digit_15 : decode cX11_digit 15 = .ok (.bipush 48, 2) := by decide +kernel
theorem dX11_digit_17 : decode cX11_digit 17 = .ok (.isub, 1) := by decide +kernel
theorem dX11_digit_18 : decode cX11_digit 18 = .ok (.istore_n 2, 1) := by decide +kernel
theorem dX11_digit_19 : decode cX11_digit 19 = .ok (.aload_n 0, 1) := by decide +kernel
theorem dX11_digit_20 : decode cX11_digit 20 = .ok (.aload_n 0, 1) := by decide +kernel
theorem dX11_digit_21 : decode cX11_digit 21 = .ok (.getfield 156, 3) := by decide +kernel
theorem dX11_digit_24 : decode cX11_digit 24 = .ok (.ifCond .ne 14, 3) := by decide +kernel
theorem dX11_digit_27 : decode cX11_digit 27 = .ok (.iload_n 2, 1) := by decide +kernel
theorem dX11_digit_28 : decode cX11_digit 28 = .ok (.i2l, 1) := by decide +kernel
theorem dX11_digit_29 : decode cX11_digit 29 = .ok (.lconst 1, 1) := by decide +kernel
theorem dX11_digit_30 : decode cX11_digit 30 = .ok (.iload_n 1, 1) := by decide +kernel
theorem dX11_digit_31 : decode cX11_digit 31 = .ok (.i2l, 1) := by decide +kernel
theorem dX11_digit_32 : decode cX11_digit 32 = .ok (.invokestatic 66, 3) := by decide +kernel
theorem dX11_digit_35 : decode cX11_digit 35 = .ok (.ifCond .ne 7, 3) := by decide +kernel
theorem dX11_digit_38 : decode cX11_digit 38 = .ok (.iconst 1, 1) := by decide +kernel
theorem dX11_digit_39 : decode cX11_digit 39 = .ok (.goto 4, 3) := by decide +kernel
theorem dX11_digit_42 : decode cX11_digit 42 = .ok (.iconst 0, 1) := by decide +kernel
theorem dX11_digit_43 : decode cX11_digit 43 = .ok (.putfield 156, 3) := by decide +kernel
theorem dX11_digit_46 : decode cX11_digit 46 = .ok (.aload_n 0, 1) := by decide +kernel
theorem dX11_digit_47 : decode cX11_digit 47 = .ok (.dup, 1) := by decide +kernel
theorem dX11_digit_48 : decode cX11_digit 48 = .ok (.getfield 153, 3) := by decide +kernel
theorem dX11_digit_51 : decode cX11_digit 51 = .ok (.aload_n 0, 1) := by decide +kernel
theorem dX11_digit_52 : decode cX11_digit 52 = .ok (.getfield 156, 3) := by decide +kernel
theorem dX11_digit_55 : decode cX11_digit 55 = .ok (.ifCond .eq 7, 3) := by decide +kernel
theorem dX11_digit_58 : decode cX11_digit 58 = .ok (.iconst 0, 1) := by decide +kernel
theorem dX11_digit_59 : decode cX11_digit 59 = .ok (.goto 4, 3) := by decide +kernel
theorem dX11_digit_62 : decode cX11_digit 62 = .ok (.iconst 1, 1) := by decide +kernel
theorem dX11_digit_63 : decode cX11_digit 63 = .ok (.iadd, 1) := by decide +kernel
theorem dX11_digit_64 : decode cX11_digit 64 = .ok (.putfield 153, 3) := by decide +kernel
theorem dX11_digit_67 : decode cX11_digit 67 = .ok (.iload_n 2, 1) := by decide +kernel
theorem dX11_digit_68 : decode cX11_digit 68 = .ok (.ireturn, 1) := by decide +kernel
theorem dX11_readPair_0 : decode cX11_readPair 0 = .ok (.iconst 5, 1) := by decide +kernel
theorem dX11_readPair_1 : decode cX11_readPair 1 = .ok (.aload_n 0, 1) := by decide +kernel
theorem dX11_readPair_2 : decode cX11_readPair 2 = .ok (.getfield 171, 3) := by decide +kernel
theorem dX11_readPair_5 : decode cX11_readPair 5 = .ok (.imul, 1) := by decide +kernel
theorem dX11_readPair_6 : decode cX11_readPair 6 = .ok (.istore_n 1, 1) := by decide +kernel
theorem dX11_readPair_7 : decode cX11_readPair 7 = .ok (.aload_n 0, 1) := by decide +kernel
theorem dX11_readPair_8 : decode cX11_readPair 8 = .ok (.getfield 29, 3) := by decide +kernel
theorem dX11_readPair_11 : decode cX11_readPair 11 = .ok (.iload_n 1, 1) := by decide +kernel
theorem dX11_readPair_12 : decode cX11_readPair 12 = .ok (.aload_n 0, 1) := by decide +kernel
theorem dX11_readPair_13 : decode cX11_readPair 13 = .ok (.bipush 112, 2) := by decide +kernel
theorem dX11_readPair_15 : decode cX11_readPair 15 = .ok (.bipush 115, 2) := by decide +kernel
theorem dX11_readPair_17 : decode cX11_readPair 17 = .ok (.bipush 116, 2) := by decide +kernel
theorem dX11_readPair_19 : decode cX11_readPair 19 = .ok (.bipush 102, 2) := by decide +kernel
theorem dX11_readPair_21 : decode cX11_readPair 21 = .ok (.invokevirtual 174, 3) := by decide +kernel
theorem dX11_readPair_24 : decode cX11_readPair 24 = .ok (.iastore, 1) := by decide +kernel
theorem dX11_readPair_25 : decode cX11_readPair 25 = .ok (.aload_n 0, 1) := by decide +kernel
theorem dX11_readPair_26 : decode cX11_readPair 26 = .ok (.getfield 29, 3) := by decide +kernel
theorem dX11_readPair_29 : decode cX11_readPair 29 = .ok (.iload_n 1, 1) := by decide +kernel
theorem dX11_readPair_30 : decode cX11_readPair 30 = .ok (.iconst 1, 1) := by decide +kernel
theorem dX11_readPair_31 : decode cX11_readPair 31 = .ok (.iadd, 1) := by decide +kernel
theorem dX11_readPair_32 : decode cX11_readPair 32 = .ok (.aload_n 0, 1) := by decide +kernel
theorem dX11_readPair_33 : decode cX11_readPair 33 = .ok (.iconst 1, 1) := by decide +kernel
theorem dX11_readPair_34 : decode cX11_readPair 34 = .ok (.bipush 30, 2) := by decide +kernel
theorem dX11_readPair_36 : decode cX11_readPair 36 = .ok (.invokevirtual 178, 3) := by decide +kernel
theorem dX11_readPair_39 : decode cX11_readPair 39 = .ok (.iastore, 1) := by decide +kernel
theorem dX11_readPair_40 : decode cX11_readPair 40 = .ok (.aload_n 0, 1) := by decide +kernel
theorem dX11_readPair_41 : decode cX11_readPair 41 = .ok (.bipush 47, 2) := by decide +kernel
theorem dX11_readPair_43 : decode cX11_readPair 43 = .ok (.invokevirtual 181, 3) := by decide +kernel
theorem dX11_readPair_46 : decode cX11_readPair 46 = .ok (.aload_n 0, 1) := by decide +kernel
theorem dX11_readPair_47 : decode cX11_readPair 47 = .ok (.getfield 29, 3) := by decide +kernel
theorem dX11_readPair_50 : decode cX11_readPair 50 = .ok (.iload_n 1, 1) := by decide +kernel
theorem dX11_readPair_51 : decode cX11_readPair 51 = .ok (.iconst 2, 1) := by decide +kernel
theorem dX11_readPair_52 : decode cX11_readPair 52 = .ok (.iadd, 1) := by decide +kernel
theorem dX11_readPair_53 : decode cX11_readPair 53 = .ok (.aload_n 0, 1) := by decide +kernel
theorem dX11_readPair_54 : decode cX11_readPair 54 = .ok (.iconst 2, 1) := by decide +kernel
theorem dX11_readPair_55 : decode cX11_readPair 55 = .ok (.bipush 24, 2) := by decide +kernel
theorem dX11_readPair_57 : decode cX11_readPair 57 = .ok (.invokevirtual 178, 3) := by decide +kernel
theorem dX11_readPair_60 : decode cX11_readPair 60 = .ok (.iastore, 1) := by decide +kernel
theorem dX11_readPair_61 : decode cX11_readPair 61 = .ok (.aload_n 0, 1) := by decide +kernel
theorem dX11_readPair_62 : decode cX11_readPair 62 = .ok (.bipush 47, 2) := by decide +kernel
theorem dX11_readPair_64 : decode cX11_readPair 64 = .ok (.invokevirtual 181, 3) := by decide +kernel
theorem dX11_readPair_67 : decode cX11_readPair 67 = .ok (.aload_n 0, 1) := by decide +kernel
theorem dX11_readPair_68 : decode cX11_readPair 68 = .ok (.getfield 29, 3) := by decide +kernel
theorem dX11_readPair_71 : decode cX11_readPair 71 = .ok (.iload_n 1, 1) := by decide +kernel
theorem dX11_readPair_72 : decode cX11_readPair 72 = .ok (.iconst 3, 1) := by decide +kernel
theorem dX11_readPair_73 : decode cX11_readPair 73 = .ok (.iadd, 1) := by decide +kernel
theorem dX11_readPair_74 : decode cX11_readPair 74 = .ok (.aload_n 0, 1) := by decide +kernel
theorem dX11_readPair_75 : decode cX11_readPair 75 = .ok (.iconst 1, 1) := by decide +kernel
theorem dX11_readPair_76 : decode cX11_readPair 76 = .ok (.aload_n 0, 1) := by decide +kernel
theorem dX11_readPair_77 : decode cX11_readPair 77 = .ok (.getfield 29, 3) := by decide +kernel
theorem dX11_readPair_80 : decode cX11_readPair 80 = .ok (.iload_n 1, 1) := by decide +kernel
theorem dX11_readPair_81 : decode cX11_readPair 81 = .ok (.iconst 2, 1) := by decide +kernel
theorem dX11_readPair_82 : decode cX11_readPair 82 = .ok (.iadd, 1) := by decide +kernel
theorem dX11_readPair_83 : decode cX11_readPair 83 = .ok (.iaload, 1) := by decide +kernel
theorem dX11_readPair_84 : decode cX11_readPair 84 = .ok (.invokevirtual 178, 3) := by decide +kernel
theorem dX11_readPair_87 : decode cX11_readPair 87 = .ok (.iastore, 1) := by decide +kernel
theorem dX11_readPair_88 : decode cX11_readPair 88 = .ok (.aload_n 0, 1) := by decide +kernel
theorem dX11_readPair_89 : decode cX11_readPair 89 = .ok (.getfield 29, 3) := by decide +kernel
theorem dX11_readPair_92 : decode cX11_readPair 92 = .ok (.iload_n 1, 1) := by decide +kernel
theorem dX11_readPair_93 : decode cX11_readPair 93 = .ok (.iconst 4, 1) := by decide +kernel
theorem dX11_readPair_94 : decode cX11_readPair 94 = .ok (.iadd, 1) := by decide +kernel
theorem dX11_readPair_95 : decode cX11_readPair 95 = .ok (.aload_n 0, 1) := by decide +kernel
theorem dX11_readPair_96 : decode cX11_readPair 96 = .ok (.bipush 43, 2) := by decide +kernel
theorem dX11_readPair_98 : decode cX11_readPair 98 = .ok (.invokevirtual 164, 3) := by decide +kernel
theorem dX11_readPair_101 : decode cX11_readPair 101 = .ok (.ifCond .eq 21, 3) := by decide +kernel
theorem dX11_readPair_104 : decode cX11_readPair 104 = .ok (.aload_n 0, 1) := by decide +kernel
theorem dX11_readPair_105 : decode cX11_readPair 105 = .ok (.iconst 0, 1) := by decide +kernel
theorem dX11_readPair_106 : decode cX11_readPair 106 = .ok (.aload_n 0, 1) := by decide +kernel
theorem dX11_readPair_107 : decode cX11_readPair 107 = .ok (.getfield 29, 3) := by decide +kernel
theorem dX11_readPair_110 : decode cX11_readPair 110 = .ok (.iload_n 1, 1) := by decide +kernel
theorem dX11_readPair_111 : decode cX11_readPair 111 = .ok (.iconst 2, 1) := by decide +kernel
theorem dX11_readPair_112 : decode cX11_readPair 112 = .ok (.iadd, 1) := by decide +kernel
theorem dX11_readPair_113 : decode cX11_readPair 113 = .ok (.iaload, 1) := by decide +kernel
theorem dX11_readPair_114 : decode cX11_readPair 114 = .ok (.iconst 1, 1) := by decide +kernel
theorem dX11_readPair_115 : decode cX11_readPair 115 = .ok (.isub, 1) := by decide +kernel
theorem dX11_readPair_116 : decode cX11_readPair 116 = .ok (.invokevirtual 178, 3) := by decide +kernel
theorem dX11_readPair_119 : decode cX11_readPair 119 = .ok (.goto 4, 3) := by decide +kernel
theorem dX11_readPair_122 : decode cX11_readPair 122 = .ok (.iconst 0, 1) := by decide +kernel
theorem dX11_readPair_123 : decode cX11_readPair 123 = .ok (.iastore, 1) := by decide +kernel
theorem dX11_readPair_124 : decode cX11_readPair 124 = .ok (.aload_n 0, 1) := by decide +kernel
theorem dX11_readPair_125 : decode cX11_readPair 125 = .ok (.dup, 1) := by decide +kernel
theorem dX11_readPair_126 : decode cX11_readPair 126 = .ok (.getfield 171, 3) := by decide +kernel
theorem dX11_readPair_129 : decode cX11_readPair 129 = .ok (.iconst 1, 1) := by decide +kernel
theorem dX11_readPair_130 : decode cX11_readPair 130 = .ok (.iadd, 1) := by decide +kernel
theorem dX11_readPair_131 : decode cX11_readPair 131 = .ok (.putfield 171, 3) := by decide +kernel
theorem dX11_readPair_134 : decode cX11_readPair 134 = .ok (.return_, 1) := by decide +kernel
theorem dX11_readShip_0 : decode cX11_readShip 0 = .ok (.iconst 3, 1) := by decide +kernel
theorem dX11_readShip_1 : decode cX11_readShip 1 = .ok (.aload_n 0, 1) := by decide +kernel
theorem dX11_readShip_2 : decode cX11_readShip 2 = .ok (.getfield 185, 3) := by decide +kernel
theorem dX11_readShip_5 : decode cX11_readShip 5 = .ok (.imul, 1) := by decide +kernel
theorem dX11_readShip_6 : decode cX11_readShip 6 = .ok (.istore_n 1, 1) := by decide +kernel
theorem dX11_readShip_7 : decode cX11_readShip 7 = .ok (.aload_n 0, 1) := by decide +kernel
theorem dX11_readShip_8 : decode cX11_readShip 8 = .ok (.getfield 32, 3) := by decide +kernel
theorem dX11_readShip_11 : decode cX11_readShip 11 = .ok (.iload_n 1, 1) := by decide +kernel
theorem dX11_readShip_12 : decode cX11_readShip 12 = .ok (.aload_n 0, 1) := by decide +kernel
theorem dX11_readShip_13 : decode cX11_readShip 13 = .ok (.bipush 80, 2) := by decide +kernel
theorem dX11_readShip_15 : decode cX11_readShip 15 = .ok (.bipush 84, 2) := by decide +kernel
theorem dX11_readShip_17 : decode cX11_readShip 17 = .ok (.bipush 66, 2) := by decide +kernel
theorem dX11_readShip_19 : decode cX11_readShip 19 = .ok (.bipush 76, 2) := by decide +kernel
theorem dX11_readShip_21 : decode cX11_readShip 21 = .ok (.invokevirtual 174, 3) := by decide +kernel
theorem dX11_readShip_24 : decode cX11_readShip 24 = .ok (.iastore, 1) := by decide +kernel
theorem dX11_readShip_25 : decode cX11_readShip 25 = .ok (.aload_n 0, 1) := by decide +kernel
theorem dX11_readShip_26 : decode cX11_readShip 26 = .ok (.getfield 32, 3) := by decide +kernel
theorem dX11_readShip_29 : decode cX11_readShip 29 = .ok (.iload_n 1, 1) := by decide +kernel
theorem dX11_readShip_30 : decode cX11_readShip 30 = .ok (.iconst 1, 1) := by decide +kernel
theorem dX11_readShip_31 : decode cX11_readShip 31 = .ok (.iadd, 1) := by decide +kernel
theorem dX11_readShip_32 : decode cX11_readShip 32 = .ok (.aload_n 0, 1) := by decide +kernel
theorem dX11_readShip_33 : decode cX11_readShip 33 = .ok (.bipush 9, 2) := by decide +kernel
theorem dX11_readShip_35 : decode cX11_readShip 35 = .ok (.invokevirtual 188, 3) := by decide +kernel
theorem dX11_readShip_38 : decode cX11_readShip 38 = .ok (.iastore, 1) := by decide +kernel
theorem dX11_readShip_39 : decode cX11_readShip 39 = .ok (.aload_n 0, 1) := by decide +kernel
theorem dX11_readShip_40 : decode cX11_readShip 40 = .ok (.getfield 32, 3) := by decide +kernel
theorem dX11_readShip_43 : decode cX11_readShip 43 = .ok (.iload_n 1, 1) := by decide +kernel
theorem dX11_readShip_44 : decode cX11_readShip 44 = .ok (.iconst 2, 1) := by decide +kernel
theorem dX11_readShip_45 : decode cX11_readShip 45 = .ok (.iadd, 1) := by decide +kernel
theorem dX11_readShip_46 : decode cX11_readShip 46 = .ok (.aload_n 0, 1) := by decide +kernel
theorem dX11_readShip_47 : decode cX11_readShip 47 = .ok (.iconst 5, 1) := by decide +kernel
theorem dX11_readShip_48 : decode cX11_readShip 48 = .ok (.invokevirtual 188, 3) := by decide +kernel
theorem dX11_readShip_51 : decode cX11_readShip 51 = .ok (.iastore, 1) := by decide +kernel
theorem dX11_readShip_52 : decode cX11_readShip 52 = .ok (.aload_n 0, 1) := by decide +kernel
theorem dX11_readShip_53 : decode cX11_readShip 53 = .ok (.dup, 1) := by decide +kernel
theorem dX11_readShip_54 : decode cX11_readShip 54 = .ok (.getfield 185, 3) := by decide +kernel
theorem dX11_readShip_57 : decode cX11_readShip 57 = .ok (.iconst 1, 1) := by decide +kernel
theorem dX11_readShip_58 : decode cX11_readShip 58 = .ok (.iadd, 1) := by decide +kernel
theorem dX11_readShip_59 : decode cX11_readShip 59 = .ok (.putfield 185, 3) := by decide +kernel
theorem dX11_readShip_62 : decode cX11_readShip 62 = .ok (.return_, 1) := by decide +kernel
theorem dX11_strait_0 : decode cX11_strait 0 = .ok (.aload_n 0, 1) := by decide +kernel
theorem dX11_strait_1 : decode cX11_strait 1 = .ok (.iconst 0, 1) := by decide +kernel
theorem dX11_strait_2 : decode cX11_strait 2 = .ok (.putfield 153, 3) := by decide +kernel
theorem dX11_strait_5 : decode cX11_strait 5 = .ok (.aload_n 0, 1) := by decide +kernel
theorem dX11_strait_6 : decode cX11_strait 6 = .ok (.iconst 0, 1) := by decide +kernel
theorem dX11_strait_7 : decode cX11_strait 7 = .ok (.putfield 156, 3) := by decide +kernel
theorem dX11_strait_10 : decode cX11_strait 10 = .ok (.aload_n 0, 1) := by decide +kernel
theorem dX11_strait_11 : decode cX11_strait 11 = .ok (.iconst 0, 1) := by decide +kernel
theorem dX11_strait_12 : decode cX11_strait 12 = .ok (.putfield 171, 3) := by decide +kernel
theorem dX11_strait_15 : decode cX11_strait 15 = .ok (.aload_n 0, 1) := by decide +kernel
theorem dX11_strait_16 : decode cX11_strait 16 = .ok (.iconst 0, 1) := by decide +kernel
theorem dX11_strait_17 : decode cX11_strait 17 = .ok (.putfield 185, 3) := by decide +kernel
theorem dX11_strait_20 : decode cX11_strait 20 = .ok (.iconst 1, 1) := by decide +kernel
theorem dX11_strait_21 : decode cX11_strait 21 = .ok (.istore_n 1, 1) := by decide +kernel
theorem dX11_strait_22 : decode cX11_strait 22 = .ok (.iload_n 1, 1) := by decide +kernel
theorem dX11_strait_23 : decode cX11_strait 23 = .ok (.ifCond .eq 34, 3) := by decide +kernel
theorem dX11_strait_26 : decode cX11_strait 26 = .ok (.aload_n 0, 1) := by decide +kernel
theorem dX11_strait_27 : decode cX11_strait 27 = .ok (.invokevirtual 191, 3) := by decide +kernel
theorem dX11_strait_30 : decode cX11_strait 30 = .ok (.aload_n 0, 1) := by decide +kernel
theorem dX11_strait_31 : decode cX11_strait 31 = .ok (.getfield 171, 3) := by decide +kernel
theorem dX11_strait_34 : decode cX11_strait 34 = .ok (.bipush 6, 2) := by decide +kernel
theorem dX11_strait_36 : decode cX11_strait 36 = .ok (.if_icmp .ge 16, 3) := by decide +kernel
theorem dX11_strait_39 : decode cX11_strait 39 = .ok (.aload_n 0, 1) := by decide +kernel
theorem dX11_strait_40 : decode cX11_strait 40 = .ok (.bipush 44, 2) := by decide +kernel
theorem dX11_strait_42 : decode cX11_strait 42 = .ok (.invokevirtual 164, 3) := by decide +kernel
theorem dX11_strait_45 : decode cX11_strait 45 = .ok (.ifCond .eq 7, 3) := by decide +kernel
theorem dX11_strait_48 : decode cX11_strait 48 = .ok (.iconst 1, 1) := by decide +kernel
theorem dX11_strait_49 : decode cX11_strait 49 = .ok (.goto 4, 3) := by decide +kernel
theorem dX11_strait_52 : decode cX11_strait 52 = .ok (.iconst 0, 1) := by decide +kernel
theorem dX11_strait_53 : decode cX11_strait 53 = .ok (.istore_n 1, 1) := by decide +kernel
theorem dX11_strait_54 : decode cX11_strait 54 = .ok (.goto (-32), 3) := by decide +kernel
theorem dX11_strait_57 : decode cX11_strait 57 = .ok (.aload_n 0, 1) := by decide +kernel
theorem dX11_strait_58 : decode cX11_strait 58 = .ok (.bipush 59, 2) := by decide +kernel
theorem dX11_strait_60 : decode cX11_strait 60 = .ok (.invokevirtual 164, 3) := by decide +kernel
theorem dX11_strait_63 : decode cX11_strait 63 = .ok (.istore_n 1, 1) := by decide +kernel
theorem dX11_strait_64 : decode cX11_strait 64 = .ok (.iload_n 1, 1) := by decide +kernel
theorem dX11_strait_65 : decode cX11_strait 65 = .ok (.ifCond .eq 33, 3) := by decide +kernel
theorem dX11_strait_68 : decode cX11_strait 68 = .ok (.aload_n 0, 1) := by decide +kernel
theorem dX11_strait_69 : decode cX11_strait 69 = .ok (.invokevirtual 194, 3) := by decide +kernel
theorem dX11_strait_72 : decode cX11_strait 72 = .ok (.aload_n 0, 1) := by decide +kernel
theorem dX11_strait_73 : decode cX11_strait 73 = .ok (.getfield 185, 3) := by decide +kernel
theorem dX11_strait_76 : decode cX11_strait 76 = .ok (.iconst 5, 1) := by decide +kernel
theorem dX11_strait_77 : decode cX11_strait 77 = .ok (.if_icmp .ge 16, 3) := by decide +kernel
theorem dX11_strait_80 : decode cX11_strait 80 = .ok (.aload_n 0, 1) := by decide +kernel
theorem dX11_strait_81 : decode cX11_strait 81 = .ok (.bipush 44, 2) := by decide +kernel
theorem dX11_strait_83 : decode cX11_strait 83 = .ok (.invokevirtual 164, 3) := by decide +kernel
theorem dX11_strait_86 : decode cX11_strait 86 = .ok (.ifCond .eq 7, 3) := by decide +kernel
theorem dX11_strait_89 : decode cX11_strait 89 = .ok (.iconst 1, 1) := by decide +kernel
theorem dX11_strait_90 : decode cX11_strait 90 = .ok (.goto 4, 3) := by decide +kernel
theorem dX11_strait_93 : decode cX11_strait 93 = .ok (.iconst 0, 1) := by decide +kernel
theorem dX11_strait_94 : decode cX11_strait 94 = .ok (.istore_n 1, 1) := by decide +kernel
theorem dX11_strait_95 : decode cX11_strait 95 = .ok (.goto (-31), 3) := by decide +kernel
theorem dX11_strait_98 : decode cX11_strait 98 = .ok (.aload_n 0, 1) := by decide +kernel
theorem dX11_strait_99 : decode cX11_strait 99 = .ok (.aload_n 0, 1) := by decide +kernel
theorem dX11_strait_100 : decode cX11_strait 100 = .ok (.getfield 156, 3) := by decide +kernel
theorem dX11_strait_103 : decode cX11_strait 103 = .ok (.ifCond .ne 10, 3) := by decide +kernel
theorem dX11_strait_106 : decode cX11_strait 106 = .ok (.aload_n 0, 1) := by decide +kernel
theorem dX11_strait_107 : decode cX11_strait 107 = .ok (.invokevirtual 160, 3) := by decide +kernel
theorem dX11_strait_110 : decode cX11_strait 110 = .ok (.ifCond .eq 7, 3) := by decide +kernel
theorem dX11_strait_113 : decode cX11_strait 113 = .ok (.iconst 1, 1) := by decide +kernel
theorem dX11_strait_114 : decode cX11_strait 114 = .ok (.goto 4, 3) := by decide +kernel
theorem dX11_strait_117 : decode cX11_strait 117 = .ok (.iconst 0, 1) := by decide +kernel
theorem dX11_strait_118 : decode cX11_strait 118 = .ok (.putfield 156, 3) := by decide +kernel
theorem dX11_strait_121 : decode cX11_strait 121 = .ok (.aload_n 0, 1) := by decide +kernel
theorem dX11_strait_122 : decode cX11_strait 122 = .ok (.iconst 0, 1) := by decide +kernel
theorem dX11_strait_123 : decode cX11_strait 123 = .ok (.putfield 150, 3) := by decide +kernel
theorem dX11_strait_126 : decode cX11_strait 126 = .ok (.aload_n 0, 1) := by decide +kernel
theorem dX11_strait_127 : decode cX11_strait 127 = .ok (.getfield 156, 3) := by decide +kernel
theorem dX11_strait_130 : decode cX11_strait 130 = .ok (.ifCond .eq 11, 3) := by decide +kernel
theorem dX11_strait_133 : decode cX11_strait 133 = .ok (.bipush (-20), 2) := by decide +kernel
theorem dX11_strait_135 : decode cX11_strait 135 = .ok (.aload_n 0, 1) := by decide +kernel
theorem dX11_strait_136 : decode cX11_strait 136 = .ok (.getfield 153, 3) := by decide +kernel
theorem dX11_strait_139 : decode cX11_strait 139 = .ok (.isub, 1) := by decide +kernel
theorem dX11_strait_140 : decode cX11_strait 140 = .ok (.ireturn, 1) := by decide +kernel
theorem dX11_strait_141 : decode cX11_strait 141 = .ok (.aload_n 0, 1) := by decide +kernel
theorem dX11_strait_142 : decode cX11_strait 142 = .ok (.iconst 0, 1) := by decide +kernel
theorem dX11_strait_143 : decode cX11_strait 143 = .ok (.putfield 63, 3) := by decide +kernel
theorem dX11_strait_146 : decode cX11_strait 146 = .ok (.aload_n 0, 1) := by decide +kernel
theorem dX11_strait_147 : decode cX11_strait 147 = .ok (.iconst 0, 1) := by decide +kernel
theorem dX11_strait_148 : decode cX11_strait 148 = .ok (.putfield 70, 3) := by decide +kernel
theorem dX11_strait_151 : decode cX11_strait 151 = .ok (.iconst 0, 1) := by decide +kernel
theorem dX11_strait_152 : decode cX11_strait 152 = .ok (.istore_n 2, 1) := by decide +kernel
theorem dX11_strait_153 : decode cX11_strait 153 = .ok (.iload_n 2, 1) := by decide +kernel
theorem dX11_strait_154 : decode cX11_strait 154 = .ok (.aload_n 0, 1) := by decide +kernel
theorem dX11_strait_155 : decode cX11_strait 155 = .ok (.getfield 171, 3) := by decide +kernel
theorem dX11_strait_158 : decode cX11_strait 158 = .ok (.if_icmp .ge 61, 3) := by decide +kernel
theorem dX11_strait_161 : decode cX11_strait 161 = .ok (.aload_n 0, 1) := by decide +kernel
theorem dX11_strait_162 : decode cX11_strait 162 = .ok (.aload_n 0, 1) := by decide +kernel
theorem dX11_strait_163 : decode cX11_strait 163 = .ok (.getfield 29, 3) := by decide +kernel
theorem dX11_strait_166 : decode cX11_strait 166 = .ok (.iconst 5, 1) := by decide +kernel
theorem dX11_strait_167 : decode cX11_strait 167 = .ok (.iload_n 2, 1) := by decide +kernel
theorem dX11_strait_168 : decode cX11_strait 168 = .ok (.imul, 1) := by decide +kernel
theorem dX11_strait_169 : decode cX11_strait 169 = .ok (.iaload, 1) := by decide +kernel
theorem dX11_strait_170 : decode cX11_strait 170 = .ok (.aload_n 0, 1) := by decide +kernel
theorem dX11_strait_171 : decode cX11_strait 171 = .ok (.getfield 29, 3) := by decide +kernel
theorem dX11_strait_174 : decode cX11_strait 174 = .ok (.iconst 5, 1) := by decide +kernel
theorem dX11_strait_175 : decode cX11_strait 175 = .ok (.iload_n 2, 1) := by decide +kernel
theorem dX11_strait_176 : decode cX11_strait 176 = .ok (.imul, 1) := by decide +kernel
theorem dX11_strait_177 : decode cX11_strait 177 = .ok (.iconst 1, 1) := by decide +kernel
theorem dX11_strait_178 : decode cX11_strait 178 = .ok (.iadd, 1) := by decide +kernel
theorem dX11_strait_179 : decode cX11_strait 179 = .ok (.iaload, 1) := by decide +kernel
theorem dX11_strait_180 : decode cX11_strait 180 = .ok (.aload_n 0, 1) := by decide +kernel
theorem dX11_strait_181 : decode cX11_strait 181 = .ok (.getfield 29, 3) := by decide +kernel
theorem dX11_strait_184 : decode cX11_strait 184 = .ok (.iconst 5, 1) := by decide +kernel
theorem dX11_strait_185 : decode cX11_strait 185 = .ok (.iload_n 2, 1) := by decide +kernel
theorem dX11_strait_186 : decode cX11_strait 186 = .ok (.imul, 1) := by decide +kernel
theorem dX11_strait_187 : decode cX11_strait 187 = .ok (.iconst 2, 1) := by decide +kernel
theorem dX11_strait_188 : decode cX11_strait 188 = .ok (.iadd, 1) := by decide +kernel
theorem dX11_strait_189 : decode cX11_strait 189 = .ok (.iaload, 1) := by decide +kernel
theorem dX11_strait_190 : decode cX11_strait 190 = .ok (.aload_n 0, 1) := by decide +kernel
theorem dX11_strait_191 : decode cX11_strait 191 = .ok (.getfield 29, 3) := by decide +kernel
theorem dX11_strait_194 : decode cX11_strait 194 = .ok (.iconst 5, 1) := by decide +kernel
theorem dX11_strait_195 : decode cX11_strait 195 = .ok (.iload_n 2, 1) := by decide +kernel
theorem dX11_strait_196 : decode cX11_strait 196 = .ok (.imul, 1) := by decide +kernel
theorem dX11_strait_197 : decode cX11_strait 197 = .ok (.iconst 3, 1) := by decide +kernel
theorem dX11_strait_198 : decode cX11_strait 198 = .ok (.iadd, 1) := by decide +kernel
theorem dX11_strait_199 : decode cX11_strait 199 = .ok (.iaload, 1) := by decide +kernel
theorem dX11_strait_200 : decode cX11_strait 200 = .ok (.aload_n 0, 1) := by decide +kernel
theorem dX11_strait_201 : decode cX11_strait 201 = .ok (.getfield 29, 3) := by decide +kernel
theorem dX11_strait_204 : decode cX11_strait 204 = .ok (.iconst 5, 1) := by decide +kernel
theorem dX11_strait_205 : decode cX11_strait 205 = .ok (.iload_n 2, 1) := by decide +kernel
theorem dX11_strait_206 : decode cX11_strait 206 = .ok (.imul, 1) := by decide +kernel
theorem dX11_strait_207 : decode cX11_strait 207 = .ok (.iconst 4, 1) := by decide +kernel
theorem dX11_strait_208 : decode cX11_strait 208 = .ok (.iadd, 1) := by decide +kernel
theorem dX11_strait_209 : decode cX11_strait 209 = .ok (.iaload, 1) := by decide +kernel
theorem dX11_strait_210 : decode cX11_strait 210 = .ok (.invokevirtual 83, 3) := by decide +kernel
theorem dX11_strait_213 : decode cX11_strait 213 = .ok (.iinc 2 1, 3) := by decide +kernel
theorem dX11_strait_216 : decode cX11_strait 216 = .ok (.goto (-63), 3) := by decide +kernel
theorem dX11_strait_219 : decode cX11_strait 219 = .ok (.iconst 0, 1) := by decide +kernel
theorem dX11_strait_220 : decode cX11_strait 220 = .ok (.istore_n 2, 1) := by decide +kernel
theorem dX11_strait_221 : decode cX11_strait 221 = .ok (.iload_n 2, 1) := by decide +kernel
theorem dX11_strait_222 : decode cX11_strait 222 = .ok (.aload_n 0, 1) := by decide +kernel
theorem dX11_strait_223 : decode cX11_strait 223 = .ok (.getfield 185, 3) := by decide +kernel
theorem dX11_strait_226 : decode cX11_strait 226 = .ok (.if_icmp .ge 41, 3) := by decide +kernel
theorem dX11_strait_229 : decode cX11_strait 229 = .ok (.aload_n 0, 1) := by decide +kernel
theorem dX11_strait_230 : decode cX11_strait 230 = .ok (.aload_n 0, 1) := by decide +kernel
theorem dX11_strait_231 : decode cX11_strait 231 = .ok (.getfield 32, 3) := by decide +kernel
theorem dX11_strait_234 : decode cX11_strait 234 = .ok (.iconst 3, 1) := by decide +kernel
theorem dX11_strait_235 : decode cX11_strait 235 = .ok (.iload_n 2, 1) := by decide +kernel
theorem dX11_strait_236 : decode cX11_strait 236 = .ok (.imul, 1) := by decide +kernel
theorem dX11_strait_237 : decode cX11_strait 237 = .ok (.iaload, 1) := by decide +kernel
theorem dX11_strait_238 : decode cX11_strait 238 = .ok (.aload_n 0, 1) := by decide +kernel
theorem dX11_strait_239 : decode cX11_strait 239 = .ok (.getfield 32, 3) := by decide +kernel
theorem dX11_strait_242 : decode cX11_strait 242 = .ok (.iconst 3, 1) := by decide +kernel
theorem dX11_strait_243 : decode cX11_strait 243 = .ok (.iload_n 2, 1) := by decide +kernel
theorem dX11_strait_244 : decode cX11_strait 244 = .ok (.imul, 1) := by decide +kernel
theorem dX11_strait_245 : decode cX11_strait 245 = .ok (.iconst 1, 1) := by decide +kernel
theorem dX11_strait_246 : decode cX11_strait 246 = .ok (.iadd, 1) := by decide +kernel
theorem dX11_strait_247 : decode cX11_strait 247 = .ok (.iaload, 1) := by decide +kernel
theorem dX11_strait_248 : decode cX11_strait 248 = .ok (.aload_n 0, 1) := by decide +kernel
theorem dX11_strait_249 : decode cX11_strait 249 = .ok (.getfield 32, 3) := by decide +kernel
theorem dX11_strait_252 : decode cX11_strait 252 = .ok (.iconst 3, 1) := by decide +kernel
theorem dX11_strait_253 : decode cX11_strait 253 = .ok (.iload_n 2, 1) := by decide +kernel
theorem dX11_strait_254 : decode cX11_strait 254 = .ok (.imul, 1) := by decide +kernel
theorem dX11_strait_255 : decode cX11_strait 255 = .ok (.iconst 2, 1) := by decide +kernel
theorem dX11_strait_256 : decode cX11_strait 256 = .ok (.iadd, 1) := by decide +kernel
theorem dX11_strait_257 : decode cX11_strait 257 = .ok (.iaload, 1) := by decide +kernel
theorem dX11_strait_258 : decode cX11_strait 258 = .ok (.invokevirtual 95, 3) := by decide +kernel
theorem dX11_strait_261 : decode cX11_strait 261 = .ok (.iinc 2 1, 3) := by decide +kernel
theorem dX11_strait_264 : decode cX11_strait 264 = .ok (.goto (-43), 3) := by decide +kernel
theorem dX11_strait_267 : decode cX11_strait 267 = .ok (.aload_n 0, 1) := by decide +kernel
theorem dX11_strait_268 : decode cX11_strait 268 = .ok (.getfield 16, 3) := by decide +kernel
theorem dX11_strait_271 : decode cX11_strait 271 = .ok (.iconst 1, 1) := by decide +kernel
theorem dX11_strait_272 : decode cX11_strait 272 = .ok (.bipush (-4), 2) := by decide +kernel
theorem dX11_strait_274 : decode cX11_strait 274 = .ok (.iastore, 1) := by decide +kernel
theorem dX11_strait_275 : decode cX11_strait 275 = .ok (.aload_n 0, 1) := by decide +kernel
theorem dX11_strait_276 : decode cX11_strait 276 = .ok (.getfield 16, 3) := by decide +kernel
theorem dX11_strait_279 : decode cX11_strait 279 = .ok (.iconst 2, 1) := by decide +kernel
theorem dX11_strait_280 : decode cX11_strait 280 = .ok (.iconst 0, 1) := by decide +kernel
theorem dX11_strait_281 : decode cX11_strait 281 = .ok (.iastore, 1) := by decide +kernel
theorem dX11_strait_282 : decode cX11_strait 282 = .ok (.aload_n 0, 1) := by decide +kernel
theorem dX11_strait_283 : decode cX11_strait 283 = .ok (.getfield 16, 3) := by decide +kernel
theorem dX11_strait_286 : decode cX11_strait 286 = .ok (.iconst 3, 1) := by decide +kernel
theorem dX11_strait_287 : decode cX11_strait 287 = .ok (.iconst 0, 1) := by decide +kernel
theorem dX11_strait_288 : decode cX11_strait 288 = .ok (.iastore, 1) := by decide +kernel
theorem dX11_strait_289 : decode cX11_strait 289 = .ok (.aload_n 0, 1) := by decide +kernel
theorem dX11_strait_290 : decode cX11_strait 290 = .ok (.iconst 0, 1) := by decide +kernel
theorem dX11_strait_291 : decode cX11_strait 291 = .ok (.putfield 197, 3) := by decide +kernel
theorem dX11_strait_294 : decode cX11_strait 294 = .ok (.aload_n 0, 1) := by decide +kernel
theorem dX11_strait_295 : decode cX11_strait 295 = .ok (.getfield 63, 3) := by decide +kernel
theorem dX11_strait_298 : decode cX11_strait 298 = .ok (.ireturn, 1) := by decide +kernel
theorem dX11_count_0 : decode cX11_count 0 = .ok (.iload_n 1, 1) := by decide +kernel
theorem dX11_count_1 : decode cX11_count 1 = .ok (.tableswitch 76 0 7 #[47, 52, 57, 57, 57, 57, 66, 71], 47) := by decide +kernel
theorem dX11_count_48 : decode cX11_count 48 = .ok (.aload_n 0, 1) := by decide +kernel
theorem dX11_count_49 : decode cX11_count 49 = .ok (.getfield 63, 3) := by decide +kernel
theorem dX11_count_52 : decode cX11_count 52 = .ok (.ireturn, 1) := by decide +kernel
theorem dX11_count_53 : decode cX11_count 53 = .ok (.aload_n 0, 1) := by decide +kernel
theorem dX11_count_54 : decode cX11_count 54 = .ok (.getfield 70, 3) := by decide +kernel
theorem dX11_count_57 : decode cX11_count 57 = .ok (.ireturn, 1) := by decide +kernel
theorem dX11_count_58 : decode cX11_count 58 = .ok (.aload_n 0, 1) := by decide +kernel
theorem dX11_count_59 : decode cX11_count 59 = .ok (.getfield 16, 3) := by decide +kernel
theorem dX11_count_62 : decode cX11_count 62 = .ok (.iload_n 1, 1) := by decide +kernel
theorem dX11_count_63 : decode cX11_count 63 = .ok (.iconst 2, 1) := by decide +kernel
theorem dX11_count_64 : decode cX11_count 64 = .ok (.isub, 1) := by decide +kernel
theorem dX11_count_65 : decode cX11_count 65 = .ok (.iaload, 1) := by decide +kernel
theorem dX11_count_66 : decode cX11_count 66 = .ok (.ireturn, 1) := by decide +kernel
theorem dX11_count_67 : decode cX11_count 67 = .ok (.aload_n 0, 1) := by decide +kernel
theorem dX11_count_68 : decode cX11_count 68 = .ok (.getfield 197, 3) := by decide +kernel
theorem dX11_count_71 : decode cX11_count 71 = .ok (.ireturn, 1) := by decide +kernel
theorem dX11_count_72 : decode cX11_count 72 = .ok (.aload_n 0, 1) := by decide +kernel
theorem dX11_count_73 : decode cX11_count 73 = .ok (.getfield 200, 3) := by decide +kernel
theorem dX11_count_76 : decode cX11_count 76 = .ok (.ireturn, 1) := by decide +kernel
theorem dX11_count_77 : decode cX11_count 77 = .ok (.iconst (-1), 1) := by decide +kernel
theorem dX11_count_78 : decode cX11_count 78 = .ok (.ireturn, 1) := by decide +kernel
theorem dX11_notes_0 : decode cX11_notes 0 = .ok (.aload_n 0, 1) := by decide +kernel
theorem dX11_notes_1 : decode cX11_notes 1 = .ok (.getfield 197, 3) := by decide +kernel
theorem dX11_notes_4 : decode cX11_notes 4 = .ok (.bipush 8, 2) := by decide +kernel
theorem dX11_notes_6 : decode cX11_notes 6 = .ok (.if_icmp .ne 37, 3) := by decide +kernel
theorem dX11_notes_9 : decode cX11_notes 9 = .ok (.iconst 4, 1) := by decide +kernel
theorem dX11_notes_10 : decode cX11_notes 10 = .ok (.istore_n 1, 1) := by decide +kernel
theorem dX11_notes_11 : decode cX11_notes 11 = .ok (.iload_n 1, 1) := by decide +kernel
theorem dX11_notes_12 : decode cX11_notes 12 = .ok (.bipush 32, 2) := by decide +kernel
theorem dX11_notes_14 : decode cX11_notes 14 = .ok (.if_icmp .ge 23, 3) := by decide +kernel
theorem dX11_notes_17 : decode cX11_notes 17 = .ok (.aload_n 0, 1) := by decide +kernel
theorem dX11_notes_18 : decode cX11_notes 18 = .ok (.getfield 35, 3) := by decide +kernel
theorem dX11_notes_21 : decode cX11_notes 21 = .ok (.iload_n 1, 1) := by decide +kernel
theorem dX11_notes_22 : decode cX11_notes 22 = .ok (.iconst 4, 1) := by decide +kernel
theorem dX11_notes_23 : decode cX11_notes 23 = .ok (.isub, 1) := by decide +kernel
theorem dX11_notes_24 : decode cX11_notes 24 = .ok (.aload_n 0, 1) := by decide +kernel
theorem dX11_notes_25 : decode cX11_notes 25 = .ok (.getfield 35, 3) := by decide +kernel
theorem dX11_notes_28 : decode cX11_notes 28 = .ok (.iload_n 1, 1) := by decide +kernel
theorem dX11_notes_29 : decode cX11_notes 29 = .ok (.iaload, 1) := by decide +kernel
theorem dX11_notes_30 : decode cX11_notes 30 = .ok (.iastore, 1) := by decide +kernel
theorem dX11_notes_31 : decode cX11_notes 31 = .ok (.iinc 1 1, 3) := by decide +kernel
theorem dX11_notes_34 : decode cX11_notes 34 = .ok (.goto (-23), 3) := by decide +kernel
theorem dX11_notes_37 : decode cX11_notes 37 = .ok (.aload_n 0, 1) := by decide +kernel
theorem dX11_notes_38 : decode cX11_notes 38 = .ok (.bipush 7, 2) := by decide +kernel
theorem dX11_notes_40 : decode cX11_notes 40 = .ok (.putfield 197, 3) := by decide +kernel
theorem dX11_notes_43 : decode cX11_notes 43 = .ok (.iconst 0, 1) := by decide +kernel
theorem dX11_notes_44 : decode cX11_notes 44 = .ok (.istore_n 1, 1) := by decide +kernel
theorem dX11_notes_45 : decode cX11_notes 45 = .ok (.iload_n 1, 1) := by decide +kernel
theorem dX11_notes_46 : decode cX11_notes 46 = .ok (.iconst 4, 1) := by decide +kernel
theorem dX11_notes_47 : decode cX11_notes 47 = .ok (.if_icmp .ge 28, 3) := by decide +kernel
theorem dX11_notes_50 : decode cX11_notes 50 = .ok (.aload_n 0, 1) := by decide +kernel
theorem dX11_notes_51 : decode cX11_notes 51 = .ok (.getfield 35, 3) := by decide +kernel
theorem dX11_notes_54 : decode cX11_notes 54 = .ok (.iconst 4, 1) := by decide +kernel
theorem dX11_notes_55 : decode cX11_notes 55 = .ok (.aload_n 0, 1) := by decide +kernel
theorem dX11_notes_56 : decode cX11_notes 56 = .ok (.getfield 197, 3) := by decide +kernel
theorem dX11_notes_59 : decode cX11_notes 59 = .ok (.imul, 1) := by decide +kernel
theorem dX11_notes_60 : decode cX11_notes 60 = .ok (.iload_n 1, 1) := by decide +kernel
theorem dX11_notes_61 : decode cX11_notes 61 = .ok (.iadd, 1) := by decide +kernel
theorem dX11_notes_62 : decode cX11_notes 62 = .ok (.aload_n 0, 1) := by decide +kernel
theorem dX11_notes_63 : decode cX11_notes 63 = .ok (.getfield 16, 3) := by decide +kernel
theorem dX11_notes_66 : decode cX11_notes 66 = .ok (.iload_n 1, 1) := by decide +kernel
theorem dX11_notes_67 : decode cX11_notes 67 = .ok (.iaload, 1) := by decide +kernel
theorem dX11_notes_68 : decode cX11_notes 68 = .ok (.iastore, 1) := by decide +kernel
theorem dX11_notes_69 : decode cX11_notes 69 = .ok (.iinc 1 1, 3) := by decide +kernel
theorem dX11_notes_72 : decode cX11_notes 72 = .ok (.goto (-27), 3) := by decide +kernel
theorem dX11_notes_75 : decode cX11_notes 75 = .ok (.aload_n 0, 1) := by decide +kernel
theorem dX11_notes_76 : decode cX11_notes 76 = .ok (.dup, 1) := by decide +kernel
theorem dX11_notes_77 : decode cX11_notes 77 = .ok (.getfield 197, 3) := by decide +kernel
theorem dX11_notes_80 : decode cX11_notes 80 = .ok (.iconst 1, 1) := by decide +kernel
theorem dX11_notes_81 : decode cX11_notes 81 = .ok (.iadd, 1) := by decide +kernel
theorem dX11_notes_82 : decode cX11_notes 82 = .ok (.putfield 197, 3) := by decide +kernel
theorem dX11_notes_85 : decode cX11_notes 85 = .ok (.return_, 1) := by decide +kernel
theorem dX11_setOut_0 : decode cX11_setOut 0 = .ok (.aload_n 0, 1) := by decide +kernel
theorem dX11_setOut_1 : decode cX11_setOut 1 = .ok (.iload_n 1, 1) := by decide +kernel
theorem dX11_setOut_2 : decode cX11_setOut 2 = .ok (.invokevirtual 105, 3) := by decide +kernel
theorem dX11_setOut_5 : decode cX11_setOut 5 = .ok (.ifCond .ne 5, 3) := by decide +kernel
theorem dX11_setOut_8 : decode cX11_setOut 8 = .ok (.iconst (-1), 1) := by decide +kernel
theorem dX11_setOut_9 : decode cX11_setOut 9 = .ok (.ireturn, 1) := by decide +kernel
theorem dX11_setOut_10 : decode cX11_setOut 10 = .ok (.aload_n 0, 1) := by decide +kernel
theorem dX11_setOut_11 : decode cX11_setOut 11 = .ok (.getfield 16, 3) := by decide +kernel
theorem dX11_setOut_14 : decode cX11_setOut 14 = .ok (.iconst 1, 1) := by decide +kernel
theorem dX11_setOut_15 : decode cX11_setOut 15 = .ok (.iaload, 1) := by decide +kernel
theorem dX11_setOut_16 : decode cX11_setOut 16 = .ok (.bipush (-4), 2) := by decide +kernel
theorem dX11_setOut_18 : decode cX11_setOut 18 = .ok (.if_icmp .eq 19, 3) := by decide +kernel
theorem dX11_setOut_21 : decode cX11_setOut 21 = .ok (.aload_n 0, 1) := by decide +kernel
theorem dX11_setOut_22 : decode cX11_setOut 22 = .ok (.getfield 16, 3) := by decide +kernel
theorem dX11_setOut_25 : decode cX11_setOut 25 = .ok (.iconst 2, 1) := by decide +kernel
theorem dX11_setOut_26 : decode cX11_setOut 26 = .ok (.iaload, 1) := by decide +kernel
theorem dX11_setOut_27 : decode cX11_setOut 27 = .ok (.aload_n 0, 1) := by decide +kernel
theorem dX11_setOut_28 : decode cX11_setOut 28 = .ok (.getfield 63, 3) := by decide +kernel
theorem dX11_setOut_31 : decode cX11_setOut 31 = .ok (.if_icmp .ge 6, 3) := by decide +kernel
theorem dX11_setOut_34 : decode cX11_setOut 34 = .ok (.bipush (-2), 2) := by decide +kernel
theorem dX11_setOut_36 : decode cX11_setOut 36 = .ok (.ireturn, 1) := by decide +kernel
theorem dX11_setOut_37 : decode cX11_setOut 37 = .ok (.aload_n 0, 1) := by decide +kernel
theorem dX11_setOut_38 : decode cX11_setOut 38 = .ok (.invokevirtual 203, 3) := by decide +kernel
theorem dX11_setOut_41 : decode cX11_setOut 41 = .ok (.aload_n 0, 1) := by decide +kernel
theorem dX11_setOut_42 : decode cX11_setOut 42 = .ok (.getfield 16, 3) := by decide +kernel
theorem dX11_setOut_45 : decode cX11_setOut 45 = .ok (.iconst 1, 1) := by decide +kernel
theorem dX11_setOut_46 : decode cX11_setOut 46 = .ok (.iload_n 1, 1) := by decide +kernel
theorem dX11_setOut_47 : decode cX11_setOut 47 = .ok (.iastore, 1) := by decide +kernel
theorem dX11_setOut_48 : decode cX11_setOut 48 = .ok (.aload_n 0, 1) := by decide +kernel
theorem dX11_setOut_49 : decode cX11_setOut 49 = .ok (.getfield 16, 3) := by decide +kernel
theorem dX11_setOut_52 : decode cX11_setOut 52 = .ok (.iconst 2, 1) := by decide +kernel
theorem dX11_setOut_53 : decode cX11_setOut 53 = .ok (.iconst 0, 1) := by decide +kernel
theorem dX11_setOut_54 : decode cX11_setOut 54 = .ok (.iastore, 1) := by decide +kernel
theorem dX11_setOut_55 : decode cX11_setOut 55 = .ok (.aload_n 0, 1) := by decide +kernel
theorem dX11_setOut_56 : decode cX11_setOut 56 = .ok (.getfield 16, 3) := by decide +kernel
theorem dX11_setOut_59 : decode cX11_setOut 59 = .ok (.iconst 3, 1) := by decide +kernel
theorem dX11_setOut_60 : decode cX11_setOut 60 = .ok (.iconst 0, 1) := by decide +kernel
theorem dX11_setOut_61 : decode cX11_setOut 61 = .ok (.iastore, 1) := by decide +kernel
theorem dX11_setOut_62 : decode cX11_setOut 62 = .ok (.aload_n 0, 1) := by decide +kernel
theorem dX11_setOut_63 : decode cX11_setOut 63 = .ok (.getfield 63, 3) := by decide +kernel
theorem dX11_setOut_66 : decode cX11_setOut 66 = .ok (.ireturn, 1) := by decide +kernel
theorem dX11_idle_0 : decode cX11_idle 0 = .ok (.iload_n 1, 1) := by decide +kernel
theorem dX11_idle_1 : decode cX11_idle 1 = .ok (.i2l, 1) := by decide +kernel
theorem dX11_idle_2 : decode cX11_idle 2 = .ok (.lconst 1, 1) := by decide +kernel
theorem dX11_idle_3 : decode cX11_idle 3 = .ok (.ldc2_w 206, 3) := by decide +kernel
theorem dX11_idle_6 : decode cX11_idle 6 = .ok (.invokestatic 66, 3) := by decide +kernel
theorem dX11_idle_9 : decode cX11_idle 9 = .ok (.ifCond .ne 5, 3) := by decide +kernel
theorem dX11_idle_12 : decode cX11_idle 12 = .ok (.iconst (-1), 1) := by decide +kernel
theorem dX11_idle_13 : decode cX11_idle 13 = .ok (.ireturn, 1) := by decide +kernel
theorem dX11_idle_14 : decode cX11_idle 14 = .ok (.aload_n 0, 1) := by decide +kernel
theorem dX11_idle_15 : decode cX11_idle 15 = .ok (.getfield 16, 3) := by decide +kernel
theorem dX11_idle_18 : decode cX11_idle 18 = .ok (.iconst 0, 1) := by decide +kernel
theorem dX11_idle_19 : decode cX11_idle 19 = .ok (.iaload, 1) := by decide +kernel
theorem dX11_idle_20 : decode cX11_idle 20 = .ok (.iload_n 1, 1) := by decide +kernel
theorem dX11_idle_21 : decode cX11_idle 21 = .ok (.iadd, 1) := by decide +kernel
theorem dX11_idle_22 : decode cX11_idle 22 = .ok (.sipush 9999, 3) := by decide +kernel
theorem dX11_idle_25 : decode cX11_idle 25 = .ok (.if_icmp .le 6, 3) := by decide +kernel
theorem dX11_idle_28 : decode cX11_idle 28 = .ok (.bipush (-3), 2) := by decide +kernel
theorem dX11_idle_30 : decode cX11_idle 30 = .ok (.ireturn, 1) := by decide +kernel
theorem dX11_idle_31 : decode cX11_idle 31 = .ok (.aload_n 0, 1) := by decide +kernel
theorem dX11_idle_32 : decode cX11_idle 32 = .ok (.invokevirtual 203, 3) := by decide +kernel
theorem dX11_idle_35 : decode cX11_idle 35 = .ok (.aload_n 0, 1) := by decide +kernel
theorem dX11_idle_36 : decode cX11_idle 36 = .ok (.getfield 16, 3) := by decide +kernel
theorem dX11_idle_39 : decode cX11_idle 39 = .ok (.iconst 0, 1) := by decide +kernel
theorem dX11_idle_40 : decode cX11_idle 40 = .ok (.dup2, 1) := by decide +kernel
theorem dX11_idle_41 : decode cX11_idle 41 = .ok (.iaload, 1) := by decide +kernel
theorem dX11_idle_42 : decode cX11_idle 42 = .ok (.iload_n 1, 1) := by decide +kernel
theorem dX11_idle_43 : decode cX11_idle 43 = .ok (.iadd, 1) := by decide +kernel
theorem dX11_idle_44 : decode cX11_idle 44 = .ok (.iastore, 1) := by decide +kernel
theorem dX11_idle_45 : decode cX11_idle 45 = .ok (.aload_n 0, 1) := by decide +kernel
theorem dX11_idle_46 : decode cX11_idle 46 = .ok (.getfield 16, 3) := by decide +kernel
theorem dX11_idle_49 : decode cX11_idle 49 = .ok (.iconst 0, 1) := by decide +kernel
theorem dX11_idle_50 : decode cX11_idle 50 = .ok (.iaload, 1) := by decide +kernel
theorem dX11_idle_51 : decode cX11_idle 51 = .ok (.ireturn, 1) := by decide +kernel
theorem dX11_pass_0 : decode cX11_pass 0 = .ok (.aload_n 0, 1) := by decide +kernel
theorem dX11_pass_1 : decode cX11_pass 1 = .ok (.getfield 16, 3) := by decide +kernel
theorem dX11_pass_4 : decode cX11_pass 4 = .ok (.iconst 1, 1) := by decide +kernel
theorem dX11_pass_5 : decode cX11_pass 5 = .ok (.iaload, 1) := by decide +kernel
theorem dX11_pass_6 : decode cX11_pass 6 = .ok (.istore_n 2, 1) := by decide +kernel
theorem dX11_pass_7 : decode cX11_pass 7 = .ok (.aload_n 0, 1) := by decide +kernel
theorem dX11_pass_8 : decode cX11_pass 8 = .ok (.getfield 16, 3) := by decide +kernel
theorem dX11_pass_11 : decode cX11_pass 11 = .ok (.iconst 2, 1) := by decide +kernel
theorem dX11_pass_12 : decode cX11_pass 12 = .ok (.iaload, 1) := by decide +kernel
theorem dX11_pass_13 : decode cX11_pass 13 = .ok (.istore_n 3, 1) := by decide +kernel
theorem dX11_pass_14 : decode cX11_pass 14 = .ok (.iload_n 2, 1) := by decide +kernel
theorem dX11_pass_15 : decode cX11_pass 15 = .ok (.bipush (-4), 2) := by decide +kernel
theorem dX11_pass_17 : decode cX11_pass 17 = .ok (.if_icmp .eq 11, 3) := by decide +kernel
theorem dX11_pass_20 : decode cX11_pass 20 = .ok (.iload_n 3, 1) := by decide +kernel
theorem dX11_pass_21 : decode cX11_pass 21 = .ok (.aload_n 0, 1) := by decide +kernel
theorem dX11_pass_22 : decode cX11_pass 22 = .ok (.getfield 63, 3) := by decide +kernel
theorem dX11_pass_25 : decode cX11_pass 25 = .ok (.if_icmp .lt 6, 3) := by decide +kernel
theorem dX11_pass_28 : decode cX11_pass 28 = .ok (.bipush (-2), 2) := by decide +kernel
theorem dX11_pass_30 : decode cX11_pass 30 = .ok (.ireturn, 1) := by decide +kernel
theorem dX11_pass_31 : decode cX11_pass 31 = .ok (.iload_n 1, 1) := by decide +kernel
theorem dX11_pass_32 : decode cX11_pass 32 = .ok (.i2l, 1) := by decide +kernel
theorem dX11_pass_33 : decode cX11_pass 33 = .ok (.aload_n 0, 1) := by decide +kernel
theorem dX11_pass_34 : decode cX11_pass 34 = .ok (.iload_n 2, 1) := by decide +kernel
theorem dX11_pass_35 : decode cX11_pass 35 = .ok (.invokevirtual 108, 3) := by decide +kernel
theorem dX11_pass_38 : decode cX11_pass 38 = .ok (.i2l, 1) := by decide +kernel
theorem dX11_pass_39 : decode cX11_pass 39 = .ok (.aload_n 0, 1) := by decide +kernel
theorem dX11_pass_40 : decode cX11_pass 40 = .ok (.iload_n 2, 1) := by decide +kernel
theorem dX11_pass_41 : decode cX11_pass 41 = .ok (.invokevirtual 101, 3) := by decide +kernel
theorem dX11_pass_44 : decode cX11_pass 44 = .ok (.i2l, 1) := by decide +kernel
theorem dX11_pass_45 : decode cX11_pass 45 = .ok (.invokestatic 66, 3) := by decide +kernel
theorem dX11_pass_48 : decode cX11_pass 48 = .ok (.ifCond .ne 5, 3) := by decide +kernel
theorem dX11_pass_51 : decode cX11_pass 51 = .ok (.iconst (-1), 1) := by decide +kernel
theorem dX11_pass_52 : decode cX11_pass 52 = .ok (.ireturn, 1) := by decide +kernel
theorem dX11_pass_53 : decode cX11_pass 53 = .ok (.aload_n 0, 1) := by decide +kernel
theorem dX11_pass_54 : decode cX11_pass 54 = .ok (.iload_n 2, 1) := by decide +kernel
theorem dX11_pass_55 : decode cX11_pass 55 = .ok (.iload_n 3, 1) := by decide +kernel
theorem dX11_pass_56 : decode cX11_pass 56 = .ok (.aload_n 0, 1) := by decide +kernel
theorem dX11_pass_57 : decode cX11_pass 57 = .ok (.getfield 7, 3) := by decide +kernel
theorem dX11_pass_60 : decode cX11_pass 60 = .ok (.iconst 5, 1) := by decide +kernel
theorem dX11_pass_61 : decode cX11_pass 61 = .ok (.iload_n 3, 1) := by decide +kernel
theorem dX11_pass_62 : decode cX11_pass 62 = .ok (.imul, 1) := by decide +kernel
theorem dX11_pass_63 : decode cX11_pass 63 = .ok (.iconst 4, 1) := by decide +kernel
theorem dX11_pass_64 : decode cX11_pass 64 = .ok (.iadd, 1) := by decide +kernel
theorem dX11_pass_65 : decode cX11_pass 65 = .ok (.iaload, 1) := by decide +kernel
theorem dX11_pass_66 : decode cX11_pass 66 = .ok (.aload_n 0, 1) := by decide +kernel
theorem dX11_pass_67 : decode cX11_pass 67 = .ok (.getfield 16, 3) := by decide +kernel
theorem dX11_pass_70 : decode cX11_pass 70 = .ok (.iconst 0, 1) := by decide +kernel
theorem dX11_pass_71 : decode cX11_pass 71 = .ok (.iaload, 1) := by decide +kernel
theorem dX11_pass_72 : decode cX11_pass 72 = .ok (.iload_n 1, 1) := by decide +kernel
theorem dX11_pass_73 : decode cX11_pass 73 = .ok (.invokevirtual 139, 3) := by decide +kernel
theorem dX11_pass_76 : decode cX11_pass 76 = .ok (.aload_n 0, 1) := by decide +kernel
theorem dX11_pass_77 : decode cX11_pass 77 = .ok (.getfield 130, 3) := by decide +kernel
theorem dX11_pass_80 : decode cX11_pass 80 = .ok (.sipush 9999, 3) := by decide +kernel
theorem dX11_pass_83 : decode cX11_pass 83 = .ok (.if_icmp .le 6, 3) := by decide +kernel
theorem dX11_pass_86 : decode cX11_pass 86 = .ok (.bipush (-3), 2) := by decide +kernel
theorem dX11_pass_88 : decode cX11_pass 88 = .ok (.ireturn, 1) := by decide +kernel
theorem dX11_pass_89 : decode cX11_pass 89 = .ok (.aload_n 0, 1) := by decide +kernel
theorem dX11_pass_90 : decode cX11_pass 90 = .ok (.invokevirtual 203, 3) := by decide +kernel
theorem dX11_pass_93 : decode cX11_pass 93 = .ok (.aload_n 0, 1) := by decide +kernel
theorem dX11_pass_94 : decode cX11_pass 94 = .ok (.getfield 16, 3) := by decide +kernel
theorem dX11_pass_97 : decode cX11_pass 97 = .ok (.iconst 0, 1) := by decide +kernel
theorem dX11_pass_98 : decode cX11_pass 98 = .ok (.aload_n 0, 1) := by decide +kernel
theorem dX11_pass_99 : decode cX11_pass 99 = .ok (.getfield 130, 3) := by decide +kernel
theorem dX11_pass_102 : decode cX11_pass 102 = .ok (.iastore, 1) := by decide +kernel
theorem dX11_pass_103 : decode cX11_pass 103 = .ok (.aload_n 0, 1) := by decide +kernel
theorem dX11_pass_104 : decode cX11_pass 104 = .ok (.getfield 16, 3) := by decide +kernel
theorem dX11_pass_107 : decode cX11_pass 107 = .ok (.iconst 1, 1) := by decide +kernel
theorem dX11_pass_108 : decode cX11_pass 108 = .ok (.aload_n 0, 1) := by decide +kernel
theorem dX11_pass_109 : decode cX11_pass 109 = .ok (.getfield 127, 3) := by decide +kernel
theorem dX11_pass_112 : decode cX11_pass 112 = .ok (.iconst 2, 1) := by decide +kernel
theorem dX11_pass_113 : decode cX11_pass 113 = .ok (.if_icmp .ne 8, 3) := by decide +kernel
theorem dX11_pass_116 : decode cX11_pass 116 = .ok (.bipush (-4), 2) := by decide +kernel
theorem dX11_pass_118 : decode cX11_pass 118 = .ok (.goto 4, 3) := by decide +kernel
theorem dX11_pass_121 : decode cX11_pass 121 = .ok (.iload_n 2, 1) := by decide +kernel
theorem dX11_pass_122 : decode cX11_pass 122 = .ok (.iastore, 1) := by decide +kernel
theorem dX11_pass_123 : decode cX11_pass 123 = .ok (.aload_n 0, 1) := by decide +kernel
theorem dX11_pass_124 : decode cX11_pass 124 = .ok (.getfield 16, 3) := by decide +kernel
theorem dX11_pass_127 : decode cX11_pass 127 = .ok (.iconst 2, 1) := by decide +kernel
theorem dX11_pass_128 : decode cX11_pass 128 = .ok (.dup2, 1) := by decide +kernel
theorem dX11_pass_129 : decode cX11_pass 129 = .ok (.iaload, 1) := by decide +kernel
theorem dX11_pass_130 : decode cX11_pass 130 = .ok (.aload_n 0, 1) := by decide +kernel
theorem dX11_pass_131 : decode cX11_pass 131 = .ok (.getfield 127, 3) := by decide +kernel
theorem dX11_pass_134 : decode cX11_pass 134 = .ok (.iconst 2, 1) := by decide +kernel
theorem dX11_pass_135 : decode cX11_pass 135 = .ok (.if_icmp .ne 7, 3) := by decide +kernel
theorem dX11_pass_138 : decode cX11_pass 138 = .ok (.iconst 0, 1) := by decide +kernel
theorem dX11_pass_139 : decode cX11_pass 139 = .ok (.goto 4, 3) := by decide +kernel
theorem dX11_pass_142 : decode cX11_pass 142 = .ok (.iconst 1, 1) := by decide +kernel
theorem dX11_pass_143 : decode cX11_pass 143 = .ok (.iadd, 1) := by decide +kernel
theorem dX11_pass_144 : decode cX11_pass 144 = .ok (.iastore, 1) := by decide +kernel
theorem dX11_pass_145 : decode cX11_pass 145 = .ok (.aload_n 0, 1) := by decide +kernel
theorem dX11_pass_146 : decode cX11_pass 146 = .ok (.getfield 16, 3) := by decide +kernel
theorem dX11_pass_149 : decode cX11_pass 149 = .ok (.iconst 3, 1) := by decide +kernel
theorem dX11_pass_150 : decode cX11_pass 150 = .ok (.dup2, 1) := by decide +kernel
theorem dX11_pass_151 : decode cX11_pass 151 = .ok (.iaload, 1) := by decide +kernel
theorem dX11_pass_152 : decode cX11_pass 152 = .ok (.aload_n 0, 1) := by decide +kernel
theorem dX11_pass_153 : decode cX11_pass 153 = .ok (.getfield 127, 3) := by decide +kernel
theorem dX11_pass_156 : decode cX11_pass 156 = .ok (.iconst 1, 1) := by decide +kernel
theorem dX11_pass_157 : decode cX11_pass 157 = .ok (.if_icmp .ne 7, 3) := by decide +kernel
theorem dX11_pass_160 : decode cX11_pass 160 = .ok (.iconst 1, 1) := by decide +kernel
theorem dX11_pass_161 : decode cX11_pass 161 = .ok (.goto 4, 3) := by decide +kernel
theorem dX11_pass_164 : decode cX11_pass 164 = .ok (.iconst 0, 1) := by decide +kernel
theorem dX11_pass_165 : decode cX11_pass 165 = .ok (.iadd, 1) := by decide +kernel
theorem dX11_pass_166 : decode cX11_pass 166 = .ok (.iastore, 1) := by decide +kernel
theorem dX11_pass_167 : decode cX11_pass 167 = .ok (.aload_n 0, 1) := by decide +kernel
theorem dX11_pass_168 : decode cX11_pass 168 = .ok (.getfield 127, 3) := by decide +kernel
theorem dX11_pass_171 : decode cX11_pass 171 = .ok (.ireturn, 1) := by decide +kernel
theorem dX11_undo_0 : decode cX11_undo 0 = .ok (.aload_n 0, 1) := by decide +kernel
theorem dX11_undo_1 : decode cX11_undo 1 = .ok (.getfield 197, 3) := by decide +kernel
theorem dX11_undo_4 : decode cX11_undo 4 = .ok (.ifCond .ne 6, 3) := by decide +kernel
theorem dX11_undo_7 : decode cX11_undo 7 = .ok (.bipush (-4), 2) := by decide +kernel
theorem dX11_undo_9 : decode cX11_undo 9 = .ok (.ireturn, 1) := by decide +kernel
theorem dX11_undo_10 : decode cX11_undo 10 = .ok (.aload_n 0, 1) := by decide +kernel
theorem dX11_undo_11 : decode cX11_undo 11 = .ok (.dup, 1) := by decide +kernel
theorem dX11_undo_12 : decode cX11_undo 12 = .ok (.getfield 197, 3) := by decide +kernel
theorem dX11_undo_15 : decode cX11_undo 15 = .ok (.iconst 1, 1) := by decide +kernel
theorem dX11_undo_16 : decode cX11_undo 16 = .ok (.isub, 1) := by decide +kernel
theorem dX11_undo_17 : decode cX11_undo 17 = .ok (.putfield 197, 3) := by decide +kernel
theorem dX11_undo_20 : decode cX11_undo 20 = .ok (.iconst 0, 1) := by decide +kernel
theorem dX11_undo_21 : decode cX11_undo 21 = .ok (.istore_n 1, 1) := by decide +kernel
theorem dX11_undo_22 : decode cX11_undo 22 = .ok (.iload_n 1, 1) := by decide +kernel
theorem dX11_undo_23 : decode cX11_undo 23 = .ok (.iconst 4, 1) := by decide +kernel
theorem dX11_undo_24 : decode cX11_undo 24 = .ok (.if_icmp .ge 28, 3) := by decide +kernel
theorem dX11_undo_27 : decode cX11_undo 27 = .ok (.aload_n 0, 1) := by decide +kernel
theorem dX11_undo_28 : decode cX11_undo 28 = .ok (.getfield 16, 3) := by decide +kernel
theorem dX11_undo_31 : decode cX11_undo 31 = .ok (.iload_n 1, 1) := by decide +kernel
theorem dX11_undo_32 : decode cX11_undo 32 = .ok (.aload_n 0, 1) := by decide +kernel
theorem dX11_undo_33 : decode cX11_undo 33 = .ok (.getfield 35, 3) := by decide +kernel
theorem dX11_undo_36 : decode cX11_undo 36 = .ok (.iconst 4, 1) := by decide +kernel
theorem dX11_undo_37 : decode cX11_undo 37 = .ok (.aload_n 0, 1) := by decide +kernel
theorem dX11_undo_38 : decode cX11_undo 38 = .ok (.getfield 197, 3) := by decide +kernel
theorem dX11_undo_41 : decode cX11_undo 41 = .ok (.imul, 1) := by decide +kernel
theorem dX11_undo_42 : decode cX11_undo 42 = .ok (.iload_n 1, 1) := by decide +kernel
theorem dX11_undo_43 : decode cX11_undo 43 = .ok (.iadd, 1) := by decide +kernel
theorem dX11_undo_44 : decode cX11_undo 44 = .ok (.iaload, 1) := by decide +kernel
theorem dX11_undo_45 : decode cX11_undo 45 = .ok (.iastore, 1) := by decide +kernel
theorem dX11_undo_46 : decode cX11_undo 46 = .ok (.iinc 1 1, 3) := by decide +kernel
theorem dX11_undo_49 : decode cX11_undo 49 = .ok (.goto (-27), 3) := by decide +kernel
theorem dX11_undo_52 : decode cX11_undo 52 = .ok (.aload_n 0, 1) := by decide +kernel
theorem dX11_undo_53 : decode cX11_undo 53 = .ok (.getfield 197, 3) := by decide +kernel
theorem dX11_undo_56 : decode cX11_undo 56 = .ok (.ireturn, 1) := by decide +kernel
theorem dX11_seed_0 : decode cX11_seed 0 = .ok (.iload_n 1, 1) := by decide +kernel
theorem dX11_seed_1 : decode cX11_seed 1 = .ok (.ifCond .ge 5, 3) := by decide +kernel
theorem dX11_seed_4 : decode cX11_seed 4 = .ok (.iconst (-1), 1) := by decide +kernel
theorem dX11_seed_5 : decode cX11_seed 5 = .ok (.ireturn, 1) := by decide +kernel
theorem dX11_seed_6 : decode cX11_seed 6 = .ok (.aload_n 0, 1) := by decide +kernel
theorem dX11_seed_7 : decode cX11_seed 7 = .ok (.getfield 19, 3) := by decide +kernel
theorem dX11_seed_10 : decode cX11_seed 10 = .ok (.istore_n 2, 1) := by decide +kernel
theorem dX11_seed_11 : decode cX11_seed 11 = .ok (.aload_n 0, 1) := by decide +kernel
theorem dX11_seed_12 : decode cX11_seed 12 = .ok (.iload_n 1, 1) := by decide +kernel
theorem dX11_seed_13 : decode cX11_seed 13 = .ok (.putfield 19, 3) := by decide +kernel
theorem dX11_seed_16 : decode cX11_seed 16 = .ok (.iload_n 2, 1) := by decide +kernel
theorem dX11_seed_17 : decode cX11_seed 17 = .ok (.ireturn, 1) := by decide +kernel
theorem dX11_lots_0 : decode cX11_lots 0 = .ok (.aload_n 0, 1) := by decide +kernel
theorem dX11_lots_1 : decode cX11_lots 1 = .ok (.iload_n 1, 1) := by decide +kernel
theorem dX11_lots_2 : decode cX11_lots 2 = .ok (.invokevirtual 105, 3) := by decide +kernel
theorem dX11_lots_5 : decode cX11_lots 5 = .ok (.ifCond .eq 15, 3) := by decide +kernel
theorem dX11_lots_8 : decode cX11_lots 8 = .ok (.iload_n 2, 1) := by decide +kernel
theorem dX11_lots_9 : decode cX11_lots 9 = .ok (.i2l, 1) := by decide +kernel
theorem dX11_lots_10 : decode cX11_lots 10 = .ok (.lconst 1, 1) := by decide +kernel
theorem dX11_lots_11 : decode cX11_lots 11 = .ok (.ldc2_w 206, 3) := by decide +kernel
theorem dX11_lots_14 : decode cX11_lots 14 = .ok (.invokestatic 66, 3) := by decide +kernel
theorem dX11_lots_17 : decode cX11_lots 17 = .ok (.ifCond .ne 5, 3) := by decide +kernel
theorem dX11_lots_20 : decode cX11_lots 20 = .ok (.iconst (-1), 1) := by decide +kernel
theorem dX11_lots_21 : decode cX11_lots 21 = .ok (.ireturn, 1) := by decide +kernel
theorem dX11_lots_22 : decode cX11_lots 22 = .ok (.iconst 0, 1) := by decide +kernel
theorem dX11_lots_23 : decode cX11_lots 23 = .ok (.istore_n 3, 1) := by decide +kernel
theorem dX11_lots_24 : decode cX11_lots 24 = .ok (.iconst 0, 1) := by decide +kernel
theorem dX11_lots_25 : decode cX11_lots 25 = .ok (.istore 4, 2) := by decide +kernel
theorem dX11_lots_27 : decode cX11_lots 27 = .ok (.iload 4, 2) := by decide +kernel
theorem dX11_lots_29 : decode cX11_lots 29 = .ok (.iload_n 2, 1) := by decide +kernel
theorem dX11_lots_30 : decode cX11_lots 30 = .ok (.if_icmp .ge 71, 3) := by decide +kernel
theorem dX11_lots_33 : decode cX11_lots 33 = .ok (.aload_n 0, 1) := by decide +kernel
theorem dX11_lots_34 : decode cX11_lots 34 = .ok (.aload_n 0, 1) := by decide +kernel
theorem dX11_lots_35 : decode cX11_lots 35 = .ok (.getfield 19, 3) := by decide +kernel
theorem dX11_lots_38 : decode cX11_lots 38 = .ok (.ldc 208, 2) := by decide +kernel
theorem dX11_lots_40 : decode cX11_lots 40 = .ok (.imul, 1) := by decide +kernel
theorem dX11_lots_41 : decode cX11_lots 41 = .ok (.sipush 12345, 3) := by decide +kernel
theorem dX11_lots_44 : decode cX11_lots 44 = .ok (.iadd, 1) := by decide +kernel
theorem dX11_lots_45 : decode cX11_lots 45 = .ok (.ldc 209, 2) := by decide +kernel
theorem dX11_lots_47 : decode cX11_lots 47 = .ok (.iand, 1) := by decide +kernel
theorem dX11_lots_48 : decode cX11_lots 48 = .ok (.putfield 19, 3) := by decide +kernel
theorem dX11_lots_51 : decode cX11_lots 51 = .ok (.aload_n 0, 1) := by decide +kernel
theorem dX11_lots_52 : decode cX11_lots 52 = .ok (.iload_n 1, 1) := by decide +kernel
theorem dX11_lots_53 : decode cX11_lots 53 = .ok (.aload_n 0, 1) := by decide +kernel
theorem dX11_lots_54 : decode cX11_lots 54 = .ok (.getfield 19, 3) := by decide +kernel
theorem dX11_lots_57 : decode cX11_lots 57 = .ok (.ldc 210, 2) := by decide +kernel
theorem dX11_lots_59 : decode cX11_lots 59 = .ok (.idiv, 1) := by decide +kernel
theorem dX11_lots_60 : decode cX11_lots 60 = .ok (.bipush 60, 2) := by decide +kernel
theorem dX11_lots_62 : decode cX11_lots 62 = .ok (.irem, 1) := by decide +kernel
theorem dX11_lots_63 : decode cX11_lots 63 = .ok (.invokevirtual 211, 3) := by decide +kernel
theorem dX11_lots_66 : decode cX11_lots 66 = .ok (.iload_n 3, 1) := by decide +kernel
theorem dX11_lots_67 : decode cX11_lots 67 = .ok (.aload_n 0, 1) := by decide +kernel
theorem dX11_lots_68 : decode cX11_lots 68 = .ok (.getfield 133, 3) := by decide +kernel
theorem dX11_lots_71 : decode cX11_lots 71 = .ok (.bipush (-4), 2) := by decide +kernel
theorem dX11_lots_73 : decode cX11_lots 73 = .ok (.if_icmp .eq 8, 3) := by decide +kernel
theorem dX11_lots_76 : decode cX11_lots 76 = .ok (.bipush 100, 2) := by decide +kernel
theorem dX11_lots_78 : decode cX11_lots 78 = .ok (.goto 15, 3) := by decide +kernel
theorem dX11_lots_81 : decode cX11_lots 81 = .ok (.aload_n 0, 1) := by decide +kernel
theorem dX11_lots_82 : decode cX11_lots 82 = .ok (.getfield 136, 3) := by decide +kernel
theorem dX11_lots_85 : decode cX11_lots 85 = .ok (.ifCond .ne 7, 3) := by decide +kernel
theorem dX11_lots_88 : decode cX11_lots 88 = .ok (.iconst 1, 1) := by decide +kernel
theorem dX11_lots_89 : decode cX11_lots 89 = .ok (.goto 4, 3) := by decide +kernel
theorem dX11_lots_92 : decode cX11_lots 92 = .ok (.iconst 0, 1) := by decide +kernel
theorem dX11_lots_93 : decode cX11_lots 93 = .ok (.iadd, 1) := by decide +kernel
theorem dX11_lots_94 : decode cX11_lots 94 = .ok (.istore_n 3, 1) := by decide +kernel
theorem dX11_lots_95 : decode cX11_lots 95 = .ok (.iinc 4 1, 3) := by decide +kernel
theorem dX11_lots_98 : decode cX11_lots 98 = .ok (.goto (-71), 3) := by decide +kernel
theorem dX11_lots_101 : decode cX11_lots 101 = .ok (.iload_n 3, 1) := by decide +kernel
theorem dX11_lots_102 : decode cX11_lots 102 = .ok (.ireturn, 1) := by decide +kernel
theorem dX11_endOf_0 : decode cX11_endOf 0 = .ok (.aload_n 0, 1) := by decide +kernel
theorem dX11_endOf_1 : decode cX11_endOf 1 = .ok (.getfield 38, 3) := by decide +kernel
theorem dX11_endOf_4 : decode cX11_endOf 4 = .ok (.sipush 400, 3) := by decide +kernel
theorem dX11_endOf_7 : decode cX11_endOf 7 = .ok (.iload_n 1, 1) := by decide +kernel
theorem dX11_endOf_8 : decode cX11_endOf 8 = .ok (.imul, 1) := by decide +kernel
theorem dX11_endOf_9 : decode cX11_endOf 9 = .ok (.iload_n 2, 1) := by decide +kernel
theorem dX11_endOf_10 : decode cX11_endOf 10 = .ok (.iadd, 1) := by decide +kernel
theorem dX11_endOf_11 : decode cX11_endOf 11 = .ok (.iaload, 1) := by decide +kernel
theorem dX11_endOf_12 : decode cX11_endOf 12 = .ok (.ireturn, 1) := by decide +kernel
theorem dX11_looksOn_0 : decode cX11_looksOn 0 = .ok (.iconst 0, 1) := by decide +kernel
theorem dX11_looksOn_1 : decode cX11_looksOn 1 = .ok (.istore_n 3, 1) := by decide +kernel
theorem dX11_looksOn_2 : decode cX11_looksOn 2 = .ok (.iload_n 3, 1) := by decide +kernel
theorem dX11_looksOn_3 : decode cX11_looksOn 3 = .ok (.sipush 400, 3) := by decide +kernel
theorem dX11_looksOn_6 : decode cX11_looksOn 6 = .ok (.if_icmp .ge 27, 3) := by decide +kernel
theorem dX11_looksOn_9 : decode cX11_looksOn 9 = .ok (.aload_n 0, 1) := by decide +kernel
theorem dX11_looksOn_10 : decode cX11_looksOn 10 = .ok (.getfield 38, 3) := by decide +kernel
theorem dX11_looksOn_13 : decode cX11_looksOn 13 = .ok (.sipush 400, 3) := by decide +kernel
theorem dX11_looksOn_16 : decode cX11_looksOn 16 = .ok (.aload_n 0, 1) := by decide +kernel
theorem dX11_looksOn_17 : decode cX11_looksOn 17 = .ok (.getfield 63, 3) := by decide +kernel
theorem dX11_looksOn_20 : decode cX11_looksOn 20 = .ok (.imul, 1) := by decide +kernel
theorem dX11_looksOn_21 : decode cX11_looksOn 21 = .ok (.iload_n 3, 1) := by decide +kernel
theorem dX11_looksOn_22 : decode cX11_looksOn 22 = .ok (.iadd, 1) := by decide +kernel
theorem dX11_looksOn_23 : decode cX11_looksOn 23 = .ok (.iload_n 2, 1) := by decide +kernel
theorem dX11_looksOn_24 : decode cX11_looksOn 24 = .ok (.iload_n 3, 1) := by decide +kernel
theorem dX11_looksOn_25 : decode cX11_looksOn 25 = .ok (.iadd, 1) := by decide +kernel
theorem dX11_looksOn_26 : decode cX11_looksOn 26 = .ok (.iastore, 1) := by decide +kernel
theorem dX11_looksOn_27 : decode cX11_looksOn 27 = .ok (.iinc 3 1, 3) := by decide +kernel
theorem dX11_looksOn_30 : decode cX11_looksOn 30 = .ok (.goto (-28), 3) := by decide +kernel
theorem dX11_looksOn_33 : decode cX11_looksOn 33 = .ok (.aload_n 0, 1) := by decide +kernel
theorem dX11_looksOn_34 : decode cX11_looksOn 34 = .ok (.getfield 63, 3) := by decide +kernel
theorem dX11_looksOn_37 : decode cX11_looksOn 37 = .ok (.iconst 1, 1) := by decide +kernel
theorem dX11_looksOn_38 : decode cX11_looksOn 38 = .ok (.isub, 1) := by decide +kernel
theorem dX11_looksOn_39 : decode cX11_looksOn 39 = .ok (.istore_n 3, 1) := by decide +kernel
theorem dX11_looksOn_40 : decode cX11_looksOn 40 = .ok (.iload_n 3, 1) := by decide +kernel
theorem dX11_looksOn_41 : decode cX11_looksOn 41 = .ok (.ifCond .lt 115, 3) := by decide +kernel
theorem dX11_looksOn_44 : decode cX11_looksOn 44 = .ok (.iconst 0, 1) := by decide +kernel
theorem dX11_looksOn_45 : decode cX11_looksOn 45 = .ok (.istore 4, 2) := by decide +kernel
theorem dX11_looksOn_47 : decode cX11_looksOn 47 = .ok (.iload 4, 2) := by decide +kernel
theorem dX11_looksOn_49 : decode cX11_looksOn 49 = .ok (.sipush 400, 3) := by decide +kernel
theorem dX11_looksOn_52 : decode cX11_looksOn 52 = .ok (.if_icmp .ge 98, 3) := by decide +kernel
theorem dX11_looksOn_55 : decode cX11_looksOn 55 = .ok (.ldc 214, 2) := by decide +kernel
theorem dX11_looksOn_57 : decode cX11_looksOn 57 = .ok (.istore 5, 2) := by decide +kernel
theorem dX11_looksOn_59 : decode cX11_looksOn 59 = .ok (.aload_n 0, 1) := by decide +kernel
theorem dX11_looksOn_60 : decode cX11_looksOn 60 = .ok (.iload_n 1, 1) := by decide +kernel
theorem dX11_looksOn_61 : decode cX11_looksOn 61 = .ok (.invokevirtual 108, 3) := by decide +kernel
theorem dX11_looksOn_64 : decode cX11_looksOn 64 = .ok (.istore 6, 2) := by decide +kernel
theorem dX11_looksOn_66 : decode cX11_looksOn 66 = .ok (.iload 6, 2) := by decide +kernel
theorem dX11_looksOn_68 : decode cX11_looksOn 68 = .ok (.aload_n 0, 1) := by decide +kernel
theorem dX11_looksOn_69 : decode cX11_looksOn 69 = .ok (.iload_n 1, 1) := by decide +kernel
theorem dX11_looksOn_70 : decode cX11_looksOn 70 = .ok (.invokevirtual 101, 3) := by decide +kernel
theorem dX11_looksOn_73 : decode cX11_looksOn 73 = .ok (.if_icmp .gt 56, 3) := by decide +kernel
theorem dX11_looksOn_76 : decode cX11_looksOn 76 = .ok (.iload 4, 2) := by decide +kernel
theorem dX11_looksOn_78 : decode cX11_looksOn 78 = .ok (.sipush 400, 3) := by decide +kernel
theorem dX11_looksOn_81 : decode cX11_looksOn 81 = .ok (.bipush 45, 2) := by decide +kernel
theorem dX11_looksOn_83 : decode cX11_looksOn 83 = .ok (.aload_n 0, 1) := by decide +kernel
theorem dX11_looksOn_84 : decode cX11_looksOn 84 = .ok (.getfield 63, 3) := by decide +kernel
theorem dX11_looksOn_87 : decode cX11_looksOn 87 = .ok (.iload_n 3, 1) := by decide +kernel
theorem dX11_looksOn_88 : decode cX11_looksOn 88 = .ok (.isub, 1) := by decide +kernel
theorem dX11_looksOn_89 : decode cX11_looksOn 89 = .ok (.imul, 1) := by decide +kernel
theorem dX11_looksOn_90 : decode cX11_looksOn 90 = .ok (.isub, 1) := by decide +kernel
theorem dX11_looksOn_91 : decode cX11_looksOn 91 = .ok (.if_icmp .ge 38, 3) := by decide +kernel
theorem dX11_looksOn_94 : decode cX11_looksOn 94 = .ok (.aload_n 0, 1) := by decide +kernel
theorem dX11_looksOn_95 : decode cX11_looksOn 95 = .ok (.iload_n 1, 1) := by decide +kernel
theorem dX11_looksOn_96 : decode cX11_looksOn 96 = .ok (.iload_n 3, 1) := by decide +kernel
theorem dX11_looksOn_97 : decode cX11_looksOn 97 = .ok (.iload_n 2, 1) := by decide +kernel
theorem dX11_looksOn_98 : decode cX11_looksOn 98 = .ok (.iload 4, 2) := by decide +kernel
theorem dX11_looksOn_100 : decode cX11_looksOn 100 = .ok (.iload 6, 2) := by decide +kernel
theorem dX11_looksOn_102 : decode cX11_looksOn 102 = .ok (.invokevirtual 215, 3) := by decide +kernel
theorem dX11_looksOn_105 : decode cX11_looksOn 105 = .ok (.istore 7, 2) := by decide +kernel
theorem dX11_looksOn_107 : decode cX11_looksOn 107 = .ok (.iload 7, 2) := by decide +kernel
theorem dX11_looksOn_109 : decode cX11_looksOn 109 = .ok (.iload 5, 2) := by decide +kernel
theorem dX11_looksOn_111 : decode cX11_looksOn 111 = .ok (.if_icmp .ge 8, 3) := by decide +kernel
theorem dX11_looksOn_114 : decode cX11_looksOn 114 = .ok (.iload 7, 2) := by decide +kernel
theorem dX11_looksOn_116 : decode cX11_looksOn 116 = .ok (.goto 5, 3) := by decide +kernel
theorem dX11_looksOn_119 : decode cX11_looksOn 119 = .ok (.iload 5, 2) := by decide +kernel
theorem dX11_looksOn_121 : decode cX11_looksOn 121 = .ok (.istore 5, 2) := by decide +kernel
theorem dX11_looksOn_123 : decode cX11_looksOn 123 = .ok (.iinc 6 1, 3) := by decide +kernel
theorem dX11_looksOn_126 : decode cX11_looksOn 126 = .ok (.goto (-60), 3) := by decide +kernel
theorem dX11_looksOn_129 : decode cX11_looksOn 129 = .ok (.aload_n 0, 1) := by decide +kernel
theorem dX11_looksOn_130 : decode cX11_looksOn 130 = .ok (.getfield 38, 3) := by decide +kernel
theorem dX11_looksOn_133 : decode cX11_looksOn 133 = .ok (.sipush 400, 3) := by decide +kernel
theorem dX11_looksOn_136 : decode cX11_looksOn 136 = .ok (.iload_n 3, 1) := by decide +kernel
theorem dX11_looksOn_137 : decode cX11_looksOn 137 = .ok (.imul, 1) := by decide +kernel
theorem dX11_looksOn_138 : decode cX11_looksOn 138 = .ok (.iload 4, 2) := by decide +kernel
theorem dX11_looksOn_140 : decode cX11_looksOn 140 = .ok (.iadd, 1) := by decide +kernel
theorem dX11_looksOn_141 : decode cX11_looksOn 141 = .ok (.iload 5, 2) := by decide +kernel
theorem dX11_looksOn_143 : decode cX11_looksOn 143 = .ok (.iastore, 1) := by decide +kernel
theorem dX11_looksOn_144 : decode cX11_looksOn 144 = .ok (.iinc 4 1, 3) := by decide +kernel
theorem dX11_looksOn_147 : decode cX11_looksOn 147 = .ok (.goto (-100), 3) := by decide +kernel
theorem dX11_looksOn_150 : decode cX11_looksOn 150 = .ok (.iinc 3 (-1), 3) := by decide +kernel
theorem dX11_looksOn_153 : decode cX11_looksOn 153 = .ok (.goto (-113), 3) := by decide +kernel
theorem dX11_looksOn_156 : decode cX11_looksOn 156 = .ok (.return_, 1) := by decide +kernel
theorem dX11_by_0 : decode cX11_by 0 = .ok (.aload_n 0, 1) := by decide +kernel
theorem dX11_by_1 : decode cX11_by 1 = .ok (.iload_n 1, 1) := by decide +kernel
theorem dX11_by_2 : decode cX11_by 2 = .ok (.iload_n 2, 1) := by decide +kernel
theorem dX11_by_3 : decode cX11_by 3 = .ok (.aload_n 0, 1) := by decide +kernel
theorem dX11_by_4 : decode cX11_by 4 = .ok (.getfield 7, 3) := by decide +kernel
theorem dX11_by_7 : decode cX11_by 7 = .ok (.iconst 5, 1) := by decide +kernel
theorem dX11_by_8 : decode cX11_by 8 = .ok (.iload_n 2, 1) := by decide +kernel
theorem dX11_by_9 : decode cX11_by 9 = .ok (.imul, 1) := by decide +kernel
theorem dX11_by_10 : decode cX11_by 10 = .ok (.iconst 4, 1) := by decide +kernel
theorem dX11_by_11 : decode cX11_by 11 = .ok (.iadd, 1) := by decide +kernel
theorem dX11_by_12 : decode cX11_by 12 = .ok (.iaload, 1) := by decide +kernel
theorem dX11_by_13 : decode cX11_by 13 = .ok (.iload_n 3, 1) := by decide +kernel
theorem dX11_by_14 : decode cX11_by 14 = .ok (.iload 4, 2) := by decide +kernel
theorem dX11_by_16 : decode cX11_by 16 = .ok (.iadd, 1) := by decide +kernel
theorem dX11_by_17 : decode cX11_by 17 = .ok (.iload 5, 2) := by decide +kernel
theorem dX11_by_19 : decode cX11_by 19 = .ok (.invokevirtual 139, 3) := by decide +kernel
theorem dX11_by_22 : decode cX11_by 22 = .ok (.aload_n 0, 1) := by decide +kernel
theorem dX11_by_23 : decode cX11_by 23 = .ok (.getfield 127, 3) := by decide +kernel
theorem dX11_by_26 : decode cX11_by 26 = .ok (.ifCond .ne 19, 3) := by decide +kernel
theorem dX11_by_29 : decode cX11_by 29 = .ok (.aload_n 0, 1) := by decide +kernel
theorem dX11_by_30 : decode cX11_by 30 = .ok (.iload_n 2, 1) := by decide +kernel
theorem dX11_by_31 : decode cX11_by 31 = .ok (.iconst 1, 1) := by decide +kernel
theorem dX11_by_32 : decode cX11_by 32 = .ok (.iadd, 1) := by decide +kernel
theorem dX11_by_33 : decode cX11_by 33 = .ok (.aload_n 0, 1) := by decide +kernel
theorem dX11_by_34 : decode cX11_by 34 = .ok (.getfield 130, 3) := by decide +kernel
theorem dX11_by_37 : decode cX11_by 37 = .ok (.iload_n 3, 1) := by decide +kernel
theorem dX11_by_38 : decode cX11_by 38 = .ok (.isub, 1) := by decide +kernel
theorem dX11_by_39 : decode cX11_by 39 = .ok (.invokevirtual 219, 3) := by decide +kernel
theorem dX11_by_42 : decode cX11_by 42 = .ok (.goto 5, 3) := by decide +kernel
theorem dX11_by_45 : decode cX11_by 45 = .ok (.ldc 214, 2) := by decide +kernel
theorem dX11_by_47 : decode cX11_by 47 = .ok (.ireturn, 1) := by decide +kernel
theorem dX11_soonest_0 : decode cX11_soonest 0 = .ok (.aload_n 0, 1) := by decide +kernel
theorem dX11_soonest_1 : decode cX11_soonest 1 = .ok (.iload_n 1, 1) := by decide +kernel
theorem dX11_soonest_2 : decode cX11_soonest 2 = .ok (.invokevirtual 105, 3) := by decide +kernel
theorem dX11_soonest_5 : decode cX11_soonest 5 = .ok (.ifCond .eq 28, 3) := by decide +kernel
theorem dX11_soonest_8 : decode cX11_soonest 8 = .ok (.iload_n 2, 1) := by decide +kernel
theorem dX11_soonest_9 : decode cX11_soonest 9 = .ok (.invokestatic 222, 3) := by decide +kernel
theorem dX11_soonest_12 : decode cX11_soonest 12 = .ok (.ifCond .eq 21, 3) := by decide +kernel
theorem dX11_soonest_15 : decode cX11_soonest 15 = .ok (.iload_n 3, 1) := by decide +kernel
theorem dX11_soonest_16 : decode cX11_soonest 16 = .ok (.i2l, 1) := by decide +kernel
theorem dX11_soonest_17 : decode cX11_soonest 17 = .ok (.ldc2_w 225, 3) := by decide +kernel
theorem dX11_soonest_20 : decode cX11_soonest 20 = .ok (.aload_n 0, 1) := by decide +kernel
theorem dX11_soonest_21 : decode cX11_soonest 21 = .ok (.getfield 63, 3) := by decide +kernel
theorem dX11_soonest_24 : decode cX11_soonest 24 = .ok (.iconst 1, 1) := by decide +kernel
theorem dX11_soonest_25 : decode cX11_soonest 25 = .ok (.isub, 1) := by decide +kernel
theorem dX11_soonest_26 : decode cX11_soonest 26 = .ok (.i2l, 1) := by decide +kernel
theorem dX11_soonest_27 : decode cX11_soonest 27 = .ok (.invokestatic 66, 3) := by decide +kernel
theorem dX11_soonest_30 : decode cX11_soonest 30 = .ok (.ifCond .ne 5, 3) := by decide +kernel
theorem dX11_soonest_33 : decode cX11_soonest 33 = .ok (.iconst (-1), 1) := by decide +kernel
theorem dX11_soonest_34 : decode cX11_soonest 34 = .ok (.ireturn, 1) := by decide +kernel
theorem dX11_soonest_35 : decode cX11_soonest 35 = .ok (.aload_n 0, 1) := by decide +kernel
theorem dX11_soonest_36 : decode cX11_soonest 36 = .ok (.iload_n 1, 1) := by decide +kernel
theorem dX11_soonest_37 : decode cX11_soonest 37 = .ok (.iload_n 2, 1) := by decide +kernel
theorem dX11_soonest_38 : decode cX11_soonest 38 = .ok (.invokevirtual 227, 3) := by decide +kernel
theorem dX11_soonest_41 : decode cX11_soonest 41 = .ok (.iconst 0, 1) := by decide +kernel
theorem dX11_soonest_42 : decode cX11_soonest 42 = .ok (.istore 4, 2) := by decide +kernel
theorem dX11_soonest_44 : decode cX11_soonest 44 = .ok (.iconst 1, 1) := by decide +kernel
theorem dX11_soonest_45 : decode cX11_soonest 45 = .ok (.istore 5, 2) := by decide +kernel
theorem dX11_soonest_47 : decode cX11_soonest 47 = .ok (.iload 5, 2) := by decide +kernel
theorem dX11_soonest_49 : decode cX11_soonest 49 = .ok (.bipush 100, 2) := by decide +kernel
theorem dX11_soonest_51 : decode cX11_soonest 51 = .ok (.if_icmp .ge 35, 3) := by decide +kernel
theorem dX11_soonest_54 : decode cX11_soonest 54 = .ok (.aload_n 0, 1) := by decide +kernel
theorem dX11_soonest_55 : decode cX11_soonest 55 = .ok (.iconst 0, 1) := by decide +kernel
theorem dX11_soonest_56 : decode cX11_soonest 56 = .ok (.iload 5, 2) := by decide +kernel
theorem dX11_soonest_58 : decode cX11_soonest 58 = .ok (.invokevirtual 219, 3) := by decide +kernel
theorem dX11_soonest_61 : decode cX11_soonest 61 = .ok (.aload_n 0, 1) := by decide +kernel
theorem dX11_soonest_62 : decode cX11_soonest 62 = .ok (.iconst 0, 1) := by decide +kernel
theorem dX11_soonest_63 : decode cX11_soonest 63 = .ok (.iload 4, 2) := by decide +kernel
theorem dX11_soonest_65 : decode cX11_soonest 65 = .ok (.invokevirtual 219, 3) := by decide +kernel
theorem dX11_soonest_68 : decode cX11_soonest 68 = .ok (.if_icmp .gt 8, 3) := by decide +kernel
theorem dX11_soonest_71 : decode cX11_soonest 71 = .ok (.iload 5, 2) := by decide +kernel
theorem dX11_soonest_73 : decode cX11_soonest 73 = .ok (.goto 5, 3) := by decide +kernel
theorem dX11_soonest_76 : decode cX11_soonest 76 = .ok (.iload 4, 2) := by decide +kernel
theorem dX11_soonest_78 : decode cX11_soonest 78 = .ok (.istore 4, 2) := by decide +kernel
theorem dX11_soonest_80 : decode cX11_soonest 80 = .ok (.iinc 5 1, 3) := by decide +kernel
theorem dX11_soonest_83 : decode cX11_soonest 83 = .ok (.goto (-36), 3) := by decide +kernel
theorem dX11_soonest_86 : decode cX11_soonest 86 = .ok (.aload_n 0, 1) := by decide +kernel
theorem dX11_soonest_87 : decode cX11_soonest 87 = .ok (.iconst 0, 1) := by decide +kernel
theorem dX11_soonest_88 : decode cX11_soonest 88 = .ok (.iload 4, 2) := by decide +kernel
theorem dX11_soonest_90 : decode cX11_soonest 90 = .ok (.invokevirtual 219, 3) := by decide +kernel
theorem dX11_soonest_93 : decode cX11_soonest 93 = .ok (.istore 5, 2) := by decide +kernel
theorem dX11_soonest_95 : decode cX11_soonest 95 = .ok (.iload 5, 2) := by decide +kernel
theorem dX11_soonest_97 : decode cX11_soonest 97 = .ok (.ldc 214, 2) := by decide +kernel
theorem dX11_soonest_99 : decode cX11_soonest 99 = .ok (.if_icmp .ne 6, 3) := by decide +kernel
theorem dX11_soonest_102 : decode cX11_soonest 102 = .ok (.bipush (-4), 2) := by decide +kernel
theorem dX11_soonest_104 : decode cX11_soonest 104 = .ok (.ireturn, 1) := by decide +kernel
theorem dX11_soonest_105 : decode cX11_soonest 105 = .ok (.iload_n 3, 1) := by decide +kernel
theorem dX11_soonest_106 : decode cX11_soonest 106 = .ok (.ifCond .ge 19, 3) := by decide +kernel
theorem dX11_soonest_109 : decode cX11_soonest 109 = .ok (.iload_n 3, 1) := by decide +kernel
theorem dX11_soonest_110 : decode cX11_soonest 110 = .ok (.bipush (-2), 2) := by decide +kernel
theorem dX11_soonest_112 : decode cX11_soonest 112 = .ok (.if_icmp .ne 8, 3) := by decide +kernel
theorem dX11_soonest_115 : decode cX11_soonest 115 = .ok (.iload 5, 2) := by decide +kernel
theorem dX11_soonest_117 : decode cX11_soonest 117 = .ok (.goto 7, 3) := by decide +kernel
theorem dX11_soonest_120 : decode cX11_soonest 120 = .ok (.iload_n 2, 1) := by decide +kernel
theorem dX11_soonest_121 : decode cX11_soonest 121 = .ok (.iload 4, 2) := by decide +kernel
theorem dX11_soonest_123 : decode cX11_soonest 123 = .ok (.iadd, 1) := by decide +kernel
theorem dX11_soonest_124 : decode cX11_soonest 124 = .ok (.ireturn, 1) := by decide +kernel
theorem dX11_soonest_125 : decode cX11_soonest 125 = .ok (.iload 4, 2) := by decide +kernel
theorem dX11_soonest_127 : decode cX11_soonest 127 = .ok (.istore 6, 2) := by decide +kernel
theorem dX11_soonest_129 : decode cX11_soonest 129 = .ok (.iconst 0, 1) := by decide +kernel
theorem dX11_soonest_130 : decode cX11_soonest 130 = .ok (.istore 7, 2) := by decide +kernel
theorem dX11_soonest_132 : decode cX11_soonest 132 = .ok (.iconst 0, 1) := by decide +kernel
theorem dX11_soonest_133 : decode cX11_soonest 133 = .ok (.istore 8, 2) := by decide +kernel
theorem dX11_soonest_135 : decode cX11_soonest 135 = .ok (.iload 8, 2) := by decide +kernel
theorem dX11_soonest_137 : decode cX11_soonest 137 = .ok (.iload_n 3, 1) := by decide +kernel
theorem dX11_soonest_138 : decode cX11_soonest 138 = .ok (.if_icmp .gt 47, 3) := by decide +kernel
theorem dX11_soonest_141 : decode cX11_soonest 141 = .ok (.aload_n 0, 1) := by decide +kernel
theorem dX11_soonest_142 : decode cX11_soonest 142 = .ok (.iload_n 1, 1) := by decide +kernel
theorem dX11_soonest_143 : decode cX11_soonest 143 = .ok (.invokevirtual 108, 3) := by decide +kernel
theorem dX11_soonest_146 : decode cX11_soonest 146 = .ok (.istore 7, 2) := by decide +kernel
theorem dX11_soonest_148 : decode cX11_soonest 148 = .ok (.aload_n 0, 1) := by decide +kernel
theorem dX11_soonest_149 : decode cX11_soonest 149 = .ok (.iload_n 1, 1) := by decide +kernel
theorem dX11_soonest_150 : decode cX11_soonest 150 = .ok (.iload 8, 2) := by decide +kernel
theorem dX11_soonest_152 : decode cX11_soonest 152 = .ok (.iload_n 2, 1) := by decide +kernel
theorem dX11_soonest_153 : decode cX11_soonest 153 = .ok (.iload 6, 2) := by decide +kernel
theorem dX11_soonest_155 : decode cX11_soonest 155 = .ok (.iload 7, 2) := by decide +kernel
theorem dX11_soonest_157 : decode cX11_soonest 157 = .ok (.invokevirtual 215, 3) := by decide +kernel
theorem dX11_soonest_160 : decode cX11_soonest 160 = .ok (.iload 5, 2) := by decide +kernel
theorem dX11_soonest_162 : decode cX11_soonest 162 = .ok (.if_icmp .eq 9, 3) := by decide +kernel
theorem dX11_soonest_165 : decode cX11_soonest 165 = .ok (.iinc 7 1, 3) := by decide +kernel
theorem dX11_soonest_168 : decode cX11_soonest 168 = .ok (.goto (-20), 3) := by decide +kernel
theorem dX11_soonest_171 : decode cX11_soonest 171 = .ok (.aload_n 0, 1) := by decide +kernel
theorem dX11_soonest_172 : decode cX11_soonest 172 = .ok (.getfield 130, 3) := by decide +kernel
theorem dX11_soonest_175 : decode cX11_soonest 175 = .ok (.iload_n 2, 1) := by decide +kernel
theorem dX11_soonest_176 : decode cX11_soonest 176 = .ok (.isub, 1) := by decide +kernel
theorem dX11_soonest_177 : decode cX11_soonest 177 = .ok (.istore 6, 2) := by decide +kernel
theorem dX11_soonest_179 : decode cX11_soonest 179 = .ok (.iinc 8 1, 3) := by decide +kernel
theorem dX11_soonest_182 : decode cX11_soonest 182 = .ok (.goto (-47), 3) := by decide +kernel
theorem dX11_soonest_185 : decode cX11_soonest 185 = .ok (.iload 7, 2) := by decide +kernel
theorem dX11_soonest_187 : decode cX11_soonest 187 = .ok (.ireturn, 1) := by decide +kernel
theorem dX11_full_0 : decode cX11_full 0 = .ok (.aload_n 0, 1) := by decide +kernel
theorem dX11_full_1 : decode cX11_full 1 = .ok (.iload_n 1, 1) := by decide +kernel
theorem dX11_full_2 : decode cX11_full 2 = .ok (.invokevirtual 105, 3) := by decide +kernel
theorem dX11_full_5 : decode cX11_full 5 = .ok (.ifCond .eq 22, 3) := by decide +kernel
theorem dX11_full_8 : decode cX11_full 8 = .ok (.iload_n 2, 1) := by decide +kernel
theorem dX11_full_9 : decode cX11_full 9 = .ok (.invokestatic 222, 3) := by decide +kernel
theorem dX11_full_12 : decode cX11_full 12 = .ok (.ifCond .eq 15, 3) := by decide +kernel
theorem dX11_full_15 : decode cX11_full 15 = .ok (.iload_n 3, 1) := by decide +kernel
theorem dX11_full_16 : decode cX11_full 16 = .ok (.i2l, 1) := by decide +kernel
theorem dX11_full_17 : decode cX11_full 17 = .ok (.lconst 0, 1) := by decide +kernel
theorem dX11_full_18 : decode cX11_full 18 = .ok (.ldc2_w 79, 3) := by decide +kernel
theorem dX11_full_21 : decode cX11_full 21 = .ok (.invokestatic 66, 3) := by decide +kernel
theorem dX11_full_24 : decode cX11_full 24 = .ok (.ifCond .ne 5, 3) := by decide +kernel
theorem dX11_full_27 : decode cX11_full 27 = .ok (.iconst (-1), 1) := by decide +kernel
theorem dX11_full_28 : decode cX11_full 28 = .ok (.ireturn, 1) := by decide +kernel
theorem dX11_full_29 : decode cX11_full 29 = .ok (.aload_n 0, 1) := by decide +kernel
theorem dX11_full_30 : decode cX11_full 30 = .ok (.iload_n 1, 1) := by decide +kernel
theorem dX11_full_31 : decode cX11_full 31 = .ok (.iload_n 2, 1) := by decide +kernel
theorem dX11_full_32 : decode cX11_full 32 = .ok (.invokevirtual 211, 3) := by decide +kernel
theorem dX11_full_35 : decode cX11_full 35 = .ok (.iload_n 3, 1) := by decide +kernel
theorem dX11_full_36 : decode cX11_full 36 = .ok (.ifCond .ne 10, 3) := by decide +kernel
theorem dX11_full_39 : decode cX11_full 39 = .ok (.aload_n 0, 1) := by decide +kernel
theorem dX11_full_40 : decode cX11_full 40 = .ok (.getfield 133, 3) := by decide +kernel
theorem dX11_full_43 : decode cX11_full 43 = .ok (.goto 19, 3) := by decide +kernel
theorem dX11_full_46 : decode cX11_full 46 = .ok (.iload_n 3, 1) := by decide +kernel
theorem dX11_full_47 : decode cX11_full 47 = .ok (.iconst 1, 1) := by decide +kernel
theorem dX11_full_48 : decode cX11_full 48 = .ok (.if_icmp .ne 10, 3) := by decide +kernel
theorem dX11_full_51 : decode cX11_full 51 = .ok (.aload_n 0, 1) := by decide +kernel
theorem dX11_full_52 : decode cX11_full 52 = .ok (.getfield 136, 3) := by decide +kernel
theorem dX11_full_55 : decode cX11_full 55 = .ok (.goto 7, 3) := by decide +kernel
theorem dX11_full_58 : decode cX11_full 58 = .ok (.aload_n 0, 1) := by decide +kernel
theorem dX11_full_59 : decode cX11_full 59 = .ok (.getfield 130, 3) := by decide +kernel
theorem dX11_full_62 : decode cX11_full 62 = .ok (.ireturn, 1) := by decide +kernel
theorem dX11_clears_0 : decode cX11_clears 0 = .ok (.iconst 1, 1) := by decide +kernel
theorem dX11_clears_1 : decode cX11_clears 1 = .ok (.istore_n 3, 1) := by decide +kernel
theorem dX11_clears_2 : decode cX11_clears 2 = .ok (.iload_n 2, 1) := by decide +kernel
theorem dX11_clears_3 : decode cX11_clears 3 = .ok (.istore 4, 2) := by decide +kernel
theorem dX11_clears_5 : decode cX11_clears 5 = .ok (.iconst 0, 1) := by decide +kernel
theorem dX11_clears_6 : decode cX11_clears 6 = .ok (.istore 5, 2) := by decide +kernel
theorem dX11_clears_8 : decode cX11_clears 8 = .ok (.iload 5, 2) := by decide +kernel
theorem dX11_clears_10 : decode cX11_clears 10 = .ok (.aload_n 0, 1) := by decide +kernel
theorem dX11_clears_11 : decode cX11_clears 11 = .ok (.getfield 63, 3) := by decide +kernel
theorem dX11_clears_14 : decode cX11_clears 14 = .ok (.if_icmp .ge 147, 3) := by decide +kernel
theorem dX11_clears_17 : decode cX11_clears 17 = .ok (.aload_n 0, 1) := by decide +kernel
theorem dX11_clears_18 : decode cX11_clears 18 = .ok (.getfield 7, 3) := by decide +kernel
theorem dX11_clears_21 : decode cX11_clears 21 = .ok (.iconst 5, 1) := by decide +kernel
theorem dX11_clears_22 : decode cX11_clears 22 = .ok (.iload 5, 2) := by decide +kernel
theorem dX11_clears_24 : decode cX11_clears 24 = .ok (.imul, 1) := by decide +kernel
theorem dX11_clears_25 : decode cX11_clears 25 = .ok (.iconst 2, 1) := by decide +kernel
theorem dX11_clears_26 : decode cX11_clears 26 = .ok (.iadd, 1) := by decide +kernel
theorem dX11_clears_27 : decode cX11_clears 27 = .ok (.iaload, 1) := by decide +kernel
theorem dX11_clears_28 : decode cX11_clears 28 = .ok (.istore 6, 2) := by decide +kernel
theorem dX11_clears_30 : decode cX11_clears 30 = .ok (.aload_n 0, 1) := by decide +kernel
theorem dX11_clears_31 : decode cX11_clears 31 = .ok (.getfield 7, 3) := by decide +kernel
theorem dX11_clears_34 : decode cX11_clears 34 = .ok (.iconst 5, 1) := by decide +kernel
theorem dX11_clears_35 : decode cX11_clears 35 = .ok (.iload 5, 2) := by decide +kernel
theorem dX11_clears_37 : decode cX11_clears 37 = .ok (.imul, 1) := by decide +kernel
theorem dX11_clears_38 : decode cX11_clears 38 = .ok (.iconst 4, 1) := by decide +kernel
theorem dX11_clears_39 : decode cX11_clears 39 = .ok (.iadd, 1) := by decide +kernel
theorem dX11_clears_40 : decode cX11_clears 40 = .ok (.iaload, 1) := by decide +kernel
theorem dX11_clears_41 : decode cX11_clears 41 = .ok (.istore 7, 2) := by decide +kernel
theorem dX11_clears_43 : decode cX11_clears 43 = .ok (.iconst 0, 1) := by decide +kernel
theorem dX11_clears_44 : decode cX11_clears 44 = .ok (.istore 8, 2) := by decide +kernel
theorem dX11_clears_46 : decode cX11_clears 46 = .ok (.iconst (-1), 1) := by decide +kernel
theorem dX11_clears_47 : decode cX11_clears 47 = .ok (.istore 9, 2) := by decide +kernel
theorem dX11_clears_49 : decode cX11_clears 49 = .ok (.iload 9, 2) := by decide +kernel
theorem dX11_clears_51 : decode cX11_clears 51 = .ok (.iconst 2, 1) := by decide +kernel
theorem dX11_clears_52 : decode cX11_clears 52 = .ok (.if_icmp .ge 60, 3) := by decide +kernel
theorem dX11_clears_55 : decode cX11_clears 55 = .ok (.aload_n 0, 1) := by decide +kernel
theorem dX11_clears_56 : decode cX11_clears 56 = .ok (.iload_n 1, 1) := by decide +kernel
theorem dX11_clears_57 : decode cX11_clears 57 = .ok (.iload 5, 2) := by decide +kernel
theorem dX11_clears_59 : decode cX11_clears 59 = .ok (.iload 7, 2) := by decide +kernel
theorem dX11_clears_61 : decode cX11_clears 61 = .ok (.iload 9, 2) := by decide +kernel
theorem dX11_clears_63 : decode cX11_clears 63 = .ok (.iadd, 1) := by decide +kernel
theorem dX11_clears_64 : decode cX11_clears 64 = .ok (.iload 6, 2) := by decide +kernel
theorem dX11_clears_66 : decode cX11_clears 66 = .ok (.iadd, 1) := by decide +kernel
theorem dX11_clears_67 : decode cX11_clears 67 = .ok (.iload 6, 2) := by decide +kernel
theorem dX11_clears_69 : decode cX11_clears 69 = .ok (.irem, 1) := by decide +kernel
theorem dX11_clears_70 : decode cX11_clears 70 = .ok (.iload 4, 2) := by decide +kernel
theorem dX11_clears_72 : decode cX11_clears 72 = .ok (.aload_n 0, 1) := by decide +kernel
theorem dX11_clears_73 : decode cX11_clears 73 = .ok (.iload_n 1, 1) := by decide +kernel
theorem dX11_clears_74 : decode cX11_clears 74 = .ok (.invokevirtual 101, 3) := by decide +kernel
theorem dX11_clears_77 : decode cX11_clears 77 = .ok (.invokevirtual 139, 3) := by decide +kernel
theorem dX11_clears_80 : decode cX11_clears 80 = .ok (.iload 8, 2) := by decide +kernel
theorem dX11_clears_82 : decode cX11_clears 82 = .ok (.aload_n 0, 1) := by decide +kernel
theorem dX11_clears_83 : decode cX11_clears 83 = .ok (.getfield 127, 3) := by decide +kernel
theorem dX11_clears_86 : decode cX11_clears 86 = .ok (.ifCond .eq 7, 3) := by decide +kernel
theorem dX11_clears_89 : decode cX11_clears 89 = .ok (.iconst 0, 1) := by decide +kernel
theorem dX11_clears_90 : decode cX11_clears 90 = .ok (.goto 13, 3) := by decide +kernel
theorem dX11_clears_93 : decode cX11_clears 93 = .ok (.iload 9, 2) := by decide +kernel
theorem dX11_clears_95 : decode cX11_clears 95 = .ok (.ifCond .ne 7, 3) := by decide +kernel
theorem dX11_clears_98 : decode cX11_clears 98 = .ok (.iconst 2, 1) := by decide +kernel
theorem dX11_clears_99 : decode cX11_clears 99 = .ok (.goto 4, 3) := by decide +kernel
theorem dX11_clears_102 : decode cX11_clears 102 = .ok (.iconst 1, 1) := by decide +kernel
theorem dX11_clears_103 : decode cX11_clears 103 = .ok (.iadd, 1) := by decide +kernel
theorem dX11_clears_104 : decode cX11_clears 104 = .ok (.istore 8, 2) := by decide +kernel
theorem dX11_clears_106 : decode cX11_clears 106 = .ok (.iinc 9 1, 3) := by decide +kernel
theorem dX11_clears_109 : decode cX11_clears 109 = .ok (.goto (-60), 3) := by decide +kernel
theorem dX11_clears_112 : decode cX11_clears 112 = .ok (.iload_n 3, 1) := by decide +kernel
theorem dX11_clears_113 : decode cX11_clears 113 = .ok (.iload 8, 2) := by decide +kernel
theorem dX11_clears_115 : decode cX11_clears 115 = .ok (.imul, 1) := by decide +kernel
theorem dX11_clears_116 : decode cX11_clears 116 = .ok (.istore_n 3, 1) := by decide +kernel
theorem dX11_clears_117 : decode cX11_clears 117 = .ok (.iload 4, 2) := by decide +kernel
theorem dX11_clears_119 : decode cX11_clears 119 = .ok (.aload_n 0, 1) := by decide +kernel
theorem dX11_clears_120 : decode cX11_clears 120 = .ok (.getfield 7, 3) := by decide +kernel
theorem dX11_clears_123 : decode cX11_clears 123 = .ok (.iconst 5, 1) := by decide +kernel
theorem dX11_clears_124 : decode cX11_clears 124 = .ok (.iload 5, 2) := by decide +kernel
theorem dX11_clears_126 : decode cX11_clears 126 = .ok (.imul, 1) := by decide +kernel
theorem dX11_clears_127 : decode cX11_clears 127 = .ok (.iconst 1, 1) := by decide +kernel
theorem dX11_clears_128 : decode cX11_clears 128 = .ok (.iadd, 1) := by decide +kernel
theorem dX11_clears_129 : decode cX11_clears 129 = .ok (.iaload, 1) := by decide +kernel
theorem dX11_clears_130 : decode cX11_clears 130 = .ok (.aload_n 0, 1) := by decide +kernel
theorem dX11_clears_131 : decode cX11_clears 131 = .ok (.iload_n 1, 1) := by decide +kernel
theorem dX11_clears_132 : decode cX11_clears 132 = .ok (.invokevirtual 101, 3) := by decide +kernel
theorem dX11_clears_135 : decode cX11_clears 135 = .ok (.invokestatic 123, 3) := by decide +kernel
theorem dX11_clears_138 : decode cX11_clears 138 = .ok (.aload_n 0, 1) := by decide +kernel
theorem dX11_clears_139 : decode cX11_clears 139 = .ok (.iload_n 1, 1) := by decide +kernel
theorem dX11_clears_140 : decode cX11_clears 140 = .ok (.invokevirtual 111, 3) := by decide +kernel
theorem dX11_clears_143 : decode cX11_clears 143 = .ok (.aload_n 0, 1) := by decide +kernel
theorem dX11_clears_144 : decode cX11_clears 144 = .ok (.iload_n 1, 1) := by decide +kernel
theorem dX11_clears_145 : decode cX11_clears 145 = .ok (.invokevirtual 101, 3) := by decide +kernel
theorem dX11_clears_148 : decode cX11_clears 148 = .ok (.invokestatic 123, 3) := by decide +kernel
theorem dX11_clears_151 : decode cX11_clears 151 = .ok (.iadd, 1) := by decide +kernel
theorem dX11_clears_152 : decode cX11_clears 152 = .ok (.iadd, 1) := by decide +kernel
theorem dX11_clears_153 : decode cX11_clears 153 = .ok (.istore 4, 2) := by decide +kernel
theorem dX11_clears_155 : decode cX11_clears 155 = .ok (.iinc 5 1, 3) := by decide +kernel
theorem dX11_clears_158 : decode cX11_clears 158 = .ok (.goto (-150), 3) := by decide +kernel
theorem dX11_clears_161 : decode cX11_clears 161 = .ok (.iload_n 3, 1) := by decide +kernel
theorem dX11_clears_162 : decode cX11_clears 162 = .ok (.ireturn, 1) := by decide +kernel
theorem dX11_common_0 : decode cX11_common 0 = .ok (.iload_n 0, 1) := by decide +kernel
theorem dX11_common_1 : decode cX11_common 1 = .ok (.istore_n 2, 1) := by decide +kernel
theorem dX11_common_2 : decode cX11_common 2 = .ok (.iload_n 1, 1) := by decide +kernel
theorem dX11_common_3 : decode cX11_common 3 = .ok (.istore_n 3, 1) := by decide +kernel
theorem dX11_common_4 : decode cX11_common 4 = .ok (.iload_n 3, 1) := by decide +kernel
theorem dX11_common_5 : decode cX11_common 5 = .ok (.ifCond .eq 16, 3) := by decide +kernel
theorem dX11_common_8 : decode cX11_common 8 = .ok (.iload_n 2, 1) := by decide +kernel
theorem dX11_common_9 : decode cX11_common 9 = .ok (.iload_n 3, 1) := by decide +kernel
theorem dX11_common_10 : decode cX11_common 10 = .ok (.irem, 1) := by decide +kernel
theorem dX11_common_11 : decode cX11_common 11 = .ok (.istore 4, 2) := by decide +kernel
theorem dX11_common_13 : decode cX11_common 13 = .ok (.iload_n 3, 1) := by decide +kernel
theorem dX11_common_14 : decode cX11_common 14 = .ok (.istore_n 2, 1) := by decide +kernel
theorem dX11_common_15 : decode cX11_common 15 = .ok (.iload 4, 2) := by decide +kernel
theorem dX11_common_17 : decode cX11_common 17 = .ok (.istore_n 3, 1) := by decide +kernel
theorem dX11_common_18 : decode cX11_common 18 = .ok (.goto (-14), 3) := by decide +kernel
theorem dX11_common_21 : decode cX11_common 21 = .ok (.iload_n 2, 1) := by decide +kernel
theorem dX11_common_22 : decode cX11_common 22 = .ok (.ireturn, 1) := by decide +kernel
theorem dX11_fog_0 : decode cX11_fog 0 = .ok (.aload_n 0, 1) := by decide +kernel
theorem dX11_fog_1 : decode cX11_fog 1 = .ok (.iload_n 1, 1) := by decide +kernel
theorem dX11_fog_2 : decode cX11_fog 2 = .ok (.invokevirtual 105, 3) := by decide +kernel
theorem dX11_fog_5 : decode cX11_fog 5 = .ok (.ifCond .eq 20, 3) := by decide +kernel
theorem dX11_fog_8 : decode cX11_fog 8 = .ok (.iload_n 2, 1) := by decide +kernel
theorem dX11_fog_9 : decode cX11_fog 9 = .ok (.invokestatic 222, 3) := by decide +kernel
theorem dX11_fog_12 : decode cX11_fog 12 = .ok (.ifCond .eq 13, 3) := by decide +kernel
theorem dX11_fog_15 : decode cX11_fog 15 = .ok (.iload_n 3, 1) := by decide +kernel
theorem dX11_fog_16 : decode cX11_fog 16 = .ok (.i2l, 1) := by decide +kernel
theorem dX11_fog_17 : decode cX11_fog 17 = .ok (.lconst 0, 1) := by decide +kernel
theorem dX11_fog_18 : decode cX11_fog 18 = .ok (.lconst 1, 1) := by decide +kernel
theorem dX11_fog_19 : decode cX11_fog 19 = .ok (.invokestatic 66, 3) := by decide +kernel
theorem dX11_fog_22 : decode cX11_fog 22 = .ok (.ifCond .ne 5, 3) := by decide +kernel
theorem dX11_fog_25 : decode cX11_fog 25 = .ok (.iconst (-1), 1) := by decide +kernel
theorem dX11_fog_26 : decode cX11_fog 26 = .ok (.ireturn, 1) := by decide +kernel
theorem dX11_fog_27 : decode cX11_fog 27 = .ok (.aload_n 0, 1) := by decide +kernel
theorem dX11_fog_28 : decode cX11_fog 28 = .ok (.iload_n 1, 1) := by decide +kernel
theorem dX11_fog_29 : decode cX11_fog 29 = .ok (.iload_n 2, 1) := by decide +kernel
theorem dX11_fog_30 : decode cX11_fog 30 = .ok (.invokevirtual 230, 3) := by decide +kernel
theorem dX11_fog_33 : decode cX11_fog 33 = .ok (.istore 4, 2) := by decide +kernel
theorem dX11_fog_35 : decode cX11_fog 35 = .ok (.iconst 1, 1) := by decide +kernel
theorem dX11_fog_36 : decode cX11_fog 36 = .ok (.iconst 2, 1) := by decide +kernel
theorem dX11_fog_37 : decode cX11_fog 37 = .ok (.aload_n 0, 1) := by decide +kernel
theorem dX11_fog_38 : decode cX11_fog 38 = .ok (.getfield 63, 3) := by decide +kernel
theorem dX11_fog_41 : decode cX11_fog 41 = .ok (.imul, 1) := by decide +kernel
theorem dX11_fog_42 : decode cX11_fog 42 = .ok (.ishl, 1) := by decide +kernel
theorem dX11_fog_43 : decode cX11_fog 43 = .ok (.istore 5, 2) := by decide +kernel
theorem dX11_fog_45 : decode cX11_fog 45 = .ok (.iload 4, 2) := by decide +kernel
theorem dX11_fog_47 : decode cX11_fog 47 = .ok (.iload 5, 2) := by decide +kernel
theorem dX11_fog_49 : decode cX11_fog 49 = .ok (.invokestatic 233, 3) := by decide +kernel
theorem dX11_fog_52 : decode cX11_fog 52 = .ok (.istore 6, 2) := by decide +kernel
theorem dX11_fog_54 : decode cX11_fog 54 = .ok (.iload_n 3, 1) := by decide +kernel
theorem dX11_fog_55 : decode cX11_fog 55 = .ok (.ifCond .ne 11, 3) := by decide +kernel
theorem dX11_fog_58 : decode cX11_fog 58 = .ok (.iload 4, 2) := by decide +kernel
theorem dX11_fog_60 : decode cX11_fog 60 = .ok (.iload 6, 2) := by decide +kernel
theorem dX11_fog_62 : decode cX11_fog 62 = .ok (.idiv, 1) := by decide +kernel
theorem dX11_fog_63 : decode cX11_fog 63 = .ok (.goto 8, 3) := by decide +kernel
theorem dX11_fog_66 : decode cX11_fog 66 = .ok (.iload 5, 2) := by decide +kernel
theorem dX11_fog_68 : decode cX11_fog 68 = .ok (.iload 6, 2) := by decide +kernel
theorem dX11_fog_70 : decode cX11_fog 70 = .ok (.idiv, 1) := by decide +kernel
theorem dX11_fog_71 : decode cX11_fog 71 = .ok (.ireturn, 1) := by decide +kernel
theorem dX11_sure_0 : decode cX11_sure 0 = .ok (.aload_n 0, 1) := by decide +kernel
theorem dX11_sure_1 : decode cX11_sure 1 = .ok (.iload_n 1, 1) := by decide +kernel
theorem dX11_sure_2 : decode cX11_sure 2 = .ok (.invokevirtual 105, 3) := by decide +kernel
theorem dX11_sure_5 : decode cX11_sure 5 = .ok (.ifCond .eq 10, 3) := by decide +kernel
theorem dX11_sure_8 : decode cX11_sure 8 = .ok (.iload_n 2, 1) := by decide +kernel
theorem dX11_sure_9 : decode cX11_sure 9 = .ok (.invokestatic 222, 3) := by decide +kernel
theorem dX11_sure_12 : decode cX11_sure 12 = .ok (.ifCond .ne 5, 3) := by decide +kernel
theorem dX11_sure_15 : decode cX11_sure 15 = .ok (.iconst (-1), 1) := by decide +kernel
theorem dX11_sure_16 : decode cX11_sure 16 = .ok (.ireturn, 1) := by decide +kernel
theorem dX11_sure_17 : decode cX11_sure 17 = .ok (.iload_n 2, 1) := by decide +kernel
theorem dX11_sure_18 : decode cX11_sure 18 = .ok (.istore_n 3, 1) := by decide +kernel
theorem dX11_sure_19 : decode cX11_sure 19 = .ok (.iconst (-1), 1) := by decide +kernel
theorem dX11_sure_20 : decode cX11_sure 20 = .ok (.istore 4, 2) := by decide +kernel
theorem dX11_sure_22 : decode cX11_sure 22 = .ok (.iload_n 2, 1) := by decide +kernel
theorem dX11_sure_23 : decode cX11_sure 23 = .ok (.istore 5, 2) := by decide +kernel
theorem dX11_sure_25 : decode cX11_sure 25 = .ok (.iload 5, 2) := by decide +kernel
theorem dX11_sure_27 : decode cX11_sure 27 = .ok (.iload_n 2, 1) := by decide +kernel
theorem dX11_sure_28 : decode cX11_sure 28 = .ok (.bipush 60, 2) := by decide +kernel
theorem dX11_sure_30 : decode cX11_sure 30 = .ok (.iadd, 1) := by decide +kernel
theorem dX11_sure_31 : decode cX11_sure 31 = .ok (.if_icmp .ge 48, 3) := by decide +kernel
theorem dX11_sure_34 : decode cX11_sure 34 = .ok (.aload_n 0, 1) := by decide +kernel
theorem dX11_sure_35 : decode cX11_sure 35 = .ok (.iload_n 1, 1) := by decide +kernel
theorem dX11_sure_36 : decode cX11_sure 36 = .ok (.iload 5, 2) := by decide +kernel
theorem dX11_sure_38 : decode cX11_sure 38 = .ok (.invokevirtual 230, 3) := by decide +kernel
theorem dX11_sure_41 : decode cX11_sure 41 = .ok (.istore 6, 2) := by decide +kernel
theorem dX11_sure_43 : decode cX11_sure 43 = .ok (.iload 6, 2) := by decide +kernel
theorem dX11_sure_45 : decode cX11_sure 45 = .ok (.iload 4, 2) := by decide +kernel
theorem dX11_sure_47 : decode cX11_sure 47 = .ok (.if_icmp .le 8, 3) := by decide +kernel
theorem dX11_sure_50 : decode cX11_sure 50 = .ok (.iload 5, 2) := by decide +kernel
theorem dX11_sure_52 : decode cX11_sure 52 = .ok (.goto 4, 3) := by decide +kernel
theorem dX11_sure_55 : decode cX11_sure 55 = .ok (.iload_n 3, 1) := by decide +kernel
theorem dX11_sure_56 : decode cX11_sure 56 = .ok (.istore_n 3, 1) := by decide +kernel
theorem dX11_sure_57 : decode cX11_sure 57 = .ok (.iload 6, 2) := by decide +kernel
theorem dX11_sure_59 : decode cX11_sure 59 = .ok (.iload 4, 2) := by decide +kernel
theorem dX11_sure_61 : decode cX11_sure 61 = .ok (.if_icmp .le 8, 3) := by decide +kernel
theorem dX11_sure_64 : decode cX11_sure 64 = .ok (.iload 6, 2) := by decide +kernel
theorem dX11_sure_66 : decode cX11_sure 66 = .ok (.goto 5, 3) := by decide +kernel
theorem dX11_sure_69 : decode cX11_sure 69 = .ok (.iload 4, 2) := by decide +kernel
theorem dX11_sure_71 : decode cX11_sure 71 = .ok (.istore 4, 2) := by decide +kernel
theorem dX11_sure_73 : decode cX11_sure 73 = .ok (.iinc 5 1, 3) := by decide +kernel
theorem dX11_sure_76 : decode cX11_sure 76 = .ok (.goto (-51), 3) := by decide +kernel
theorem dX11_sure_79 : decode cX11_sure 79 = .ok (.iload_n 3, 1) := by decide +kernel
theorem dX11_sure_80 : decode cX11_sure 80 = .ok (.ireturn, 1) := by decide +kernel
theorem dX11_stones_0 : decode cX11_stones 0 = .ok (.aload_n 0, 1) := by decide +kernel
theorem dX11_stones_1 : decode cX11_stones 1 = .ok (.iload_n 1, 1) := by decide +kernel
theorem dX11_stones_2 : decode cX11_stones 2 = .ok (.invokevirtual 105, 3) := by decide +kernel
theorem dX11_stones_5 : decode cX11_stones 5 = .ok (.ifCond .eq 28, 3) := by decide +kernel
theorem dX11_stones_8 : decode cX11_stones 8 = .ok (.iload_n 2, 1) := by decide +kernel
theorem dX11_stones_9 : decode cX11_stones 9 = .ok (.invokestatic 222, 3) := by decide +kernel
theorem dX11_stones_12 : decode cX11_stones 12 = .ok (.ifCond .eq 21, 3) := by decide +kernel
theorem dX11_stones_15 : decode cX11_stones 15 = .ok (.iload_n 3, 1) := by decide +kernel
theorem dX11_stones_16 : decode cX11_stones 16 = .ok (.i2l, 1) := by decide +kernel
theorem dX11_stones_17 : decode cX11_stones 17 = .ok (.ldc2_w 236, 3) := by decide +kernel
theorem dX11_stones_20 : decode cX11_stones 20 = .ok (.aload_n 0, 1) := by decide +kernel
theorem dX11_stones_21 : decode cX11_stones 21 = .ok (.getfield 63, 3) := by decide +kernel
theorem dX11_stones_24 : decode cX11_stones 24 = .ok (.iconst 1, 1) := by decide +kernel
theorem dX11_stones_25 : decode cX11_stones 25 = .ok (.isub, 1) := by decide +kernel
theorem dX11_stones_26 : decode cX11_stones 26 = .ok (.i2l, 1) := by decide +kernel
theorem dX11_stones_27 : decode cX11_stones 27 = .ok (.invokestatic 66, 3) := by decide +kernel
theorem dX11_stones_30 : decode cX11_stones 30 = .ok (.ifCond .ne 5, 3) := by decide +kernel
theorem dX11_stones_33 : decode cX11_stones 33 = .ok (.iconst (-1), 1) := by decide +kernel
theorem dX11_stones_34 : decode cX11_stones 34 = .ok (.ireturn, 1) := by decide +kernel
theorem dX11_stones_35 : decode cX11_stones 35 = .ok (.iconst 0, 1) := by decide +kernel
theorem dX11_stones_36 : decode cX11_stones 36 = .ok (.istore 4, 2) := by decide +kernel
theorem dX11_stones_38 : decode cX11_stones 38 = .ok (.iconst 0, 1) := by decide +kernel
theorem dX11_stones_39 : decode cX11_stones 39 = .ok (.istore 5, 2) := by decide +kernel
theorem dX11_stones_41 : decode cX11_stones 41 = .ok (.iload_n 2, 1) := by decide +kernel
theorem dX11_stones_42 : decode cX11_stones 42 = .ok (.istore 6, 2) := by decide +kernel
theorem dX11_stones_44 : decode cX11_stones 44 = .ok (.iconst 0, 1) := by decide +kernel
theorem dX11_stones_45 : decode cX11_stones 45 = .ok (.istore 7, 2) := by decide +kernel
theorem dX11_stones_47 : decode cX11_stones 47 = .ok (.iload 7, 2) := by decide +kernel
theorem dX11_stones_49 : decode cX11_stones 49 = .ok (.aload_n 0, 1) := by decide +kernel
theorem dX11_stones_50 : decode cX11_stones 50 = .ok (.getfield 63, 3) := by decide +kernel
theorem dX11_stones_53 : decode cX11_stones 53 = .ok (.if_icmp .ge 124, 3) := by decide +kernel
theorem dX11_stones_56 : decode cX11_stones 56 = .ok (.aload_n 0, 1) := by decide +kernel
theorem dX11_stones_57 : decode cX11_stones 57 = .ok (.getfield 7, 3) := by decide +kernel
theorem dX11_stones_60 : decode cX11_stones 60 = .ok (.iconst 5, 1) := by decide +kernel
theorem dX11_stones_61 : decode cX11_stones 61 = .ok (.iload 7, 2) := by decide +kernel
theorem dX11_stones_63 : decode cX11_stones 63 = .ok (.imul, 1) := by decide +kernel
theorem dX11_stones_64 : decode cX11_stones 64 = .ok (.iconst 2, 1) := by decide +kernel
theorem dX11_stones_65 : decode cX11_stones 65 = .ok (.iadd, 1) := by decide +kernel
theorem dX11_stones_66 : decode cX11_stones 66 = .ok (.iaload, 1) := by decide +kernel
theorem dX11_stones_67 : decode cX11_stones 67 = .ok (.istore 8, 2) := by decide +kernel
theorem dX11_stones_69 : decode cX11_stones 69 = .ok (.iconst (-1), 1) := by decide +kernel
theorem dX11_stones_70 : decode cX11_stones 70 = .ok (.istore 9, 2) := by decide +kernel
theorem dX11_stones_72 : decode cX11_stones 72 = .ok (.aload_n 0, 1) := by decide +kernel
theorem dX11_stones_73 : decode cX11_stones 73 = .ok (.iconst 2, 1) := by decide +kernel
theorem dX11_stones_74 : decode cX11_stones 74 = .ok (.putfield 127, 3) := by decide +kernel
theorem dX11_stones_77 : decode cX11_stones 77 = .ok (.aload_n 0, 1) := by decide +kernel
theorem dX11_stones_78 : decode cX11_stones 78 = .ok (.getfield 127, 3) := by decide +kernel
theorem dX11_stones_81 : decode cX11_stones 81 = .ok (.ifCond .eq 52, 3) := by decide +kernel
theorem dX11_stones_84 : decode cX11_stones 84 = .ok (.iload 9, 2) := by decide +kernel
theorem dX11_stones_86 : decode cX11_stones 86 = .ok (.iload 8, 2) := by decide +kernel
theorem dX11_stones_88 : decode cX11_stones 88 = .ok (.iconst 1, 1) := by decide +kernel
theorem dX11_stones_89 : decode cX11_stones 89 = .ok (.isub, 1) := by decide +kernel
theorem dX11_stones_90 : decode cX11_stones 90 = .ok (.if_icmp .ge 43, 3) := by decide +kernel
theorem dX11_stones_93 : decode cX11_stones 93 = .ok (.iinc 9 1, 3) := by decide +kernel
theorem dX11_stones_96 : decode cX11_stones 96 = .ok (.aload_n 0, 1) := by decide +kernel
theorem dX11_stones_97 : decode cX11_stones 97 = .ok (.iload_n 1, 1) := by decide +kernel
theorem dX11_stones_98 : decode cX11_stones 98 = .ok (.iload 7, 2) := by decide +kernel
theorem dX11_stones_100 : decode cX11_stones 100 = .ok (.aload_n 0, 1) := by decide +kernel
theorem dX11_stones_101 : decode cX11_stones 101 = .ok (.getfield 7, 3) := by decide +kernel
theorem dX11_stones_104 : decode cX11_stones 104 = .ok (.iconst 5, 1) := by decide +kernel
theorem dX11_stones_105 : decode cX11_stones 105 = .ok (.iload 7, 2) := by decide +kernel
theorem dX11_stones_107 : decode cX11_stones 107 = .ok (.imul, 1) := by decide +kernel
theorem dX11_stones_108 : decode cX11_stones 108 = .ok (.iconst 4, 1) := by decide +kernel
theorem dX11_stones_109 : decode cX11_stones 109 = .ok (.iadd, 1) := by decide +kernel
theorem dX11_stones_110 : decode cX11_stones 110 = .ok (.iaload, 1) := by decide +kernel
theorem dX11_stones_111 : decode cX11_stones 111 = .ok (.iload 8, 2) := by decide +kernel
theorem dX11_stones_113 : decode cX11_stones 113 = .ok (.iadd, 1) := by decide +kernel
theorem dX11_stones_114 : decode cX11_stones 114 = .ok (.iload 9, 2) := by decide +kernel
theorem dX11_stones_116 : decode cX11_stones 116 = .ok (.isub, 1) := by decide +kernel
theorem dX11_stones_117 : decode cX11_stones 117 = .ok (.iload 8, 2) := by decide +kernel
theorem dX11_stones_119 : decode cX11_stones 119 = .ok (.irem, 1) := by decide +kernel
theorem dX11_stones_120 : decode cX11_stones 120 = .ok (.iload 6, 2) := by decide +kernel
theorem dX11_stones_122 : decode cX11_stones 122 = .ok (.aload_n 0, 1) := by decide +kernel
theorem dX11_stones_123 : decode cX11_stones 123 = .ok (.iload_n 1, 1) := by decide +kernel
theorem dX11_stones_124 : decode cX11_stones 124 = .ok (.invokevirtual 101, 3) := by decide +kernel
theorem dX11_stones_127 : decode cX11_stones 127 = .ok (.invokevirtual 139, 3) := by decide +kernel
theorem dX11_stones_130 : decode cX11_stones 130 = .ok (.goto (-53), 3) := by decide +kernel
theorem dX11_stones_133 : decode cX11_stones 133 = .ok (.aload_n 0, 1) := by decide +kernel
theorem dX11_stones_134 : decode cX11_stones 134 = .ok (.getfield 127, 3) := by decide +kernel
theorem dX11_stones_137 : decode cX11_stones 137 = .ok (.ifCond .eq 6, 3) := by decide +kernel
theorem dX11_stones_140 : decode cX11_stones 140 = .ok (.bipush (-4), 2) := by decide +kernel
theorem dX11_stones_142 : decode cX11_stones 142 = .ok (.ireturn, 1) := by decide +kernel
theorem dX11_stones_143 : decode cX11_stones 143 = .ok (.iload 4, 2) := by decide +kernel
theorem dX11_stones_145 : decode cX11_stones 145 = .ok (.iload 9, 2) := by decide +kernel
theorem dX11_stones_147 : decode cX11_stones 147 = .ok (.iadd, 1) := by decide +kernel
theorem dX11_stones_148 : decode cX11_stones 148 = .ok (.istore 4, 2) := by decide +kernel
theorem dX11_stones_150 : decode cX11_stones 150 = .ok (.iload 7, 2) := by decide +kernel
theorem dX11_stones_152 : decode cX11_stones 152 = .ok (.iload_n 3, 1) := by decide +kernel
theorem dX11_stones_153 : decode cX11_stones 153 = .ok (.if_icmp .ne 8, 3) := by decide +kernel
theorem dX11_stones_156 : decode cX11_stones 156 = .ok (.iload 9, 2) := by decide +kernel
theorem dX11_stones_158 : decode cX11_stones 158 = .ok (.goto 5, 3) := by decide +kernel
theorem dX11_stones_161 : decode cX11_stones 161 = .ok (.iload 5, 2) := by decide +kernel
theorem dX11_stones_163 : decode cX11_stones 163 = .ok (.istore 5, 2) := by decide +kernel
theorem dX11_stones_165 : decode cX11_stones 165 = .ok (.aload_n 0, 1) := by decide +kernel
theorem dX11_stones_166 : decode cX11_stones 166 = .ok (.getfield 130, 3) := by decide +kernel
theorem dX11_stones_169 : decode cX11_stones 169 = .ok (.istore 6, 2) := by decide +kernel
theorem dX11_stones_171 : decode cX11_stones 171 = .ok (.iinc 7 1, 3) := by decide +kernel
theorem dX11_stones_174 : decode cX11_stones 174 = .ok (.goto (-127), 3) := by decide +kernel
theorem dX11_stones_177 : decode cX11_stones 177 = .ok (.iload_n 3, 1) := by decide +kernel
theorem dX11_stones_178 : decode cX11_stones 178 = .ok (.ifCond .ge 8, 3) := by decide +kernel
theorem dX11_stones_181 : decode cX11_stones 181 = .ok (.iload 4, 2) := by decide +kernel
theorem dX11_stones_183 : decode cX11_stones 183 = .ok (.goto 5, 3) := by decide +kernel
theorem dX11_stones_186 : decode cX11_stones 186 = .ok (.iload 5, 2) := by decide +kernel
theorem dX11_stones_188 : decode cX11_stones 188 = .ok (.ireturn, 1) := by decide +kernel
theorem dX11_many_0 : decode cX11_many 0 = .ok (.iconst 0, 1) := by decide +kernel
theorem dX11_many_1 : decode cX11_many 1 = .ok (.istore_n 1, 1) := by decide +kernel
theorem dX11_many_2 : decode cX11_many 2 = .ok (.iload_n 0, 1) := by decide +kernel
theorem dX11_many_3 : decode cX11_many 3 = .ok (.istore_n 2, 1) := by decide +kernel
theorem dX11_many_4 : decode cX11_many 4 = .ok (.iload_n 2, 1) := by decide +kernel
theorem dX11_many_5 : decode cX11_many 5 = .ok (.ifCond .eq 15, 3) := by decide +kernel
theorem dX11_many_8 : decode cX11_many 8 = .ok (.iinc 1 1, 3) := by decide +kernel
theorem dX11_many_11 : decode cX11_many 11 = .ok (.iload_n 2, 1) := by decide +kernel
theorem dX11_many_12 : decode cX11_many 12 = .ok (.iload_n 2, 1) := by decide +kernel
theorem dX11_many_13 : decode cX11_many 13 = .ok (.iconst 1, 1) := by decide +kernel
theorem dX11_many_14 : decode cX11_many 14 = .ok (.isub, 1) := by decide +kernel
theorem dX11_many_15 : decode cX11_many 15 = .ok (.iand, 1) := by decide +kernel
theorem dX11_many_16 : decode cX11_many 16 = .ok (.istore_n 2, 1) := by decide +kernel
theorem dX11_many_17 : decode cX11_many 17 = .ok (.goto (-13), 3) := by decide +kernel
theorem dX11_many_20 : decode cX11_many 20 = .ok (.iload_n 1, 1) := by decide +kernel
theorem dX11_many_21 : decode cX11_many 21 = .ok (.ireturn, 1) := by decide +kernel
theorem dX11_convoy_0 : decode cX11_convoy 0 = .ok (.aload_n 0, 1) := by decide +kernel
theorem dX11_convoy_1 : decode cX11_convoy 1 = .ok (.iload_n 1, 1) := by decide +kernel
theorem dX11_convoy_2 : decode cX11_convoy 2 = .ok (.invokevirtual 87, 3) := by decide +kernel
theorem dX11_convoy_5 : decode cX11_convoy 5 = .ok (.ifCond .eq 28, 3) := by decide +kernel
theorem dX11_convoy_8 : decode cX11_convoy 8 = .ok (.iload_n 2, 1) := by decide +kernel
theorem dX11_convoy_9 : decode cX11_convoy 9 = .ok (.invokestatic 222, 3) := by decide +kernel
theorem dX11_convoy_12 : decode cX11_convoy 12 = .ok (.ifCond .eq 21, 3) := by decide +kernel
theorem dX11_convoy_15 : decode cX11_convoy 15 = .ok (.iload_n 3, 1) := by decide +kernel
theorem dX11_convoy_16 : decode cX11_convoy 16 = .ok (.i2l, 1) := by decide +kernel
theorem dX11_convoy_17 : decode cX11_convoy 17 = .ok (.lconst 0, 1) := by decide +kernel
theorem dX11_convoy_18 : decode cX11_convoy 18 = .ok (.iconst 1, 1) := by decide +kernel
theorem dX11_convoy_19 : decode cX11_convoy 19 = .ok (.aload_n 0, 1) := by decide +kernel
theorem dX11_convoy_20 : decode cX11_convoy 20 = .ok (.getfield 70, 3) := by decide +kernel
theorem dX11_convoy_23 : decode cX11_convoy 23 = .ok (.ishl, 1) := by decide +kernel
theorem dX11_convoy_24 : decode cX11_convoy 24 = .ok (.iconst 1, 1) := by decide +kernel
theorem dX11_convoy_25 : decode cX11_convoy 25 = .ok (.isub, 1) := by decide +kernel
theorem dX11_convoy_26 : decode cX11_convoy 26 = .ok (.i2l, 1) := by decide +kernel
theorem dX11_convoy_27 : decode cX11_convoy 27 = .ok (.invokestatic 66, 3) := by decide +kernel
theorem dX11_convoy_30 : decode cX11_convoy 30 = .ok (.ifCond .ne 5, 3) := by decide +kernel
theorem dX11_convoy_33 : decode cX11_convoy 33 = .ok (.iconst (-1), 1) := by decide +kernel
theorem dX11_convoy_34 : decode cX11_convoy 34 = .ok (.ireturn, 1) := by decide +kernel
theorem dX11_convoy_35 : decode cX11_convoy 35 = .ok (.iconst 0, 1) := by decide +kernel
theorem dX11_convoy_36 : decode cX11_convoy 36 = .ok (.istore 4, 2) := by decide +kernel
theorem dX11_convoy_38 : decode cX11_convoy 38 = .ok (.iload 4, 2) := by decide +kernel
theorem dX11_convoy_40 : decode cX11_convoy 40 = .ok (.bipush 60, 2) := by decide +kernel
theorem dX11_convoy_42 : decode cX11_convoy 42 = .ok (.if_icmp .ge 31, 3) := by decide +kernel
theorem dX11_convoy_45 : decode cX11_convoy 45 = .ok (.aload_n 0, 1) := by decide +kernel
theorem dX11_convoy_46 : decode cX11_convoy 46 = .ok (.iload_n 1, 1) := by decide +kernel
theorem dX11_convoy_47 : decode cX11_convoy 47 = .ok (.iload_n 2, 1) := by decide +kernel
theorem dX11_convoy_48 : decode cX11_convoy 48 = .ok (.iload 4, 2) := by decide +kernel
theorem dX11_convoy_50 : decode cX11_convoy 50 = .ok (.iadd, 1) := by decide +kernel
theorem dX11_convoy_51 : decode cX11_convoy 51 = .ok (.aload_n 0, 1) := by decide +kernel
theorem dX11_convoy_52 : decode cX11_convoy 52 = .ok (.getfield 7, 3) := by decide +kernel
theorem dX11_convoy_55 : decode cX11_convoy 55 = .ok (.iconst 5, 1) := by decide +kernel
theorem dX11_convoy_56 : decode cX11_convoy 56 = .ok (.iload_n 1, 1) := by decide +kernel
theorem dX11_convoy_57 : decode cX11_convoy 57 = .ok (.imul, 1) := by decide +kernel
theorem dX11_convoy_58 : decode cX11_convoy 58 = .ok (.iconst 4, 1) := by decide +kernel
theorem dX11_convoy_59 : decode cX11_convoy 59 = .ok (.iadd, 1) := by decide +kernel
theorem dX11_convoy_60 : decode cX11_convoy 60 = .ok (.iaload, 1) := by decide +kernel
theorem dX11_convoy_61 : decode cX11_convoy 61 = .ok (.invokevirtual 120, 3) := by decide +kernel
theorem dX11_convoy_64 : decode cX11_convoy 64 = .ok (.ifCond .eq 9, 3) := by decide +kernel
theorem dX11_convoy_67 : decode cX11_convoy 67 = .ok (.iinc 4 1, 3) := by decide +kernel
theorem dX11_convoy_70 : decode cX11_convoy 70 = .ok (.goto (-32), 3) := by decide +kernel
theorem dX11_convoy_73 : decode cX11_convoy 73 = .ok (.iconst 0, 1) := by decide +kernel
theorem dX11_convoy_74 : decode cX11_convoy 74 = .ok (.istore 5, 2) := by decide +kernel
theorem dX11_convoy_76 : decode cX11_convoy 76 = .ok (.iconst 1, 1) := by decide +kernel
theorem dX11_convoy_77 : decode cX11_convoy 77 = .ok (.istore 6, 2) := by decide +kernel
theorem dX11_convoy_79 : decode cX11_convoy 79 = .ok (.iload 6, 2) := by decide +kernel
theorem dX11_convoy_81 : decode cX11_convoy 81 = .ok (.iload_n 3, 1) := by decide +kernel
theorem dX11_convoy_82 : decode cX11_convoy 82 = .ok (.if_icmp .gt 103, 3) := by decide +kernel
theorem dX11_convoy_85 : decode cX11_convoy 85 = .ok (.iconst 0, 1) := by decide +kernel
theorem dX11_convoy_86 : decode cX11_convoy 86 = .ok (.istore 7, 2) := by decide +kernel
theorem dX11_convoy_88 : decode cX11_convoy 88 = .ok (.iconst 0, 1) := by decide +kernel
theorem dX11_convoy_89 : decode cX11_convoy 89 = .ok (.istore 8, 2) := by decide +kernel
theorem dX11_convoy_91 : decode cX11_convoy 91 = .ok (.iload 8, 2) := by decide +kernel
theorem dX11_convoy_93 : decode cX11_convoy 93 = .ok (.aload_n 0, 1) := by decide +kernel
theorem dX11_convoy_94 : decode cX11_convoy 94 = .ok (.getfield 70, 3) := by decide +kernel
theorem dX11_convoy_97 : decode cX11_convoy 97 = .ok (.if_icmp .ge 44, 3) := by decide +kernel
theorem dX11_convoy_100 : decode cX11_convoy 100 = .ok (.iload 7, 2) := by decide +kernel
theorem dX11_convoy_102 : decode cX11_convoy 102 = .ok (.iload 6, 2) := by decide +kernel
theorem dX11_convoy_104 : decode cX11_convoy 104 = .ok (.iload 8, 2) := by decide +kernel
theorem dX11_convoy_106 : decode cX11_convoy 106 = .ok (.ishr, 1) := by decide +kernel
theorem dX11_convoy_107 : decode cX11_convoy 107 = .ok (.iconst 1, 1) := by decide +kernel
theorem dX11_convoy_108 : decode cX11_convoy 108 = .ok (.iand, 1) := by decide +kernel
theorem dX11_convoy_109 : decode cX11_convoy 109 = .ok (.iconst 1, 1) := by decide +kernel
theorem dX11_convoy_110 : decode cX11_convoy 110 = .ok (.if_icmp .ne 21, 3) := by decide +kernel
theorem dX11_convoy_113 : decode cX11_convoy 113 = .ok (.aload_n 0, 1) := by decide +kernel
theorem dX11_convoy_114 : decode cX11_convoy 114 = .ok (.iload 8, 2) := by decide +kernel
theorem dX11_convoy_116 : decode cX11_convoy 116 = .ok (.invokevirtual 111, 3) := by decide +kernel
theorem dX11_convoy_119 : decode cX11_convoy 119 = .ok (.aload_n 0, 1) := by decide +kernel
theorem dX11_convoy_120 : decode cX11_convoy 120 = .ok (.iload 8, 2) := by decide +kernel
theorem dX11_convoy_122 : decode cX11_convoy 122 = .ok (.invokevirtual 101, 3) := by decide +kernel
theorem dX11_convoy_125 : decode cX11_convoy 125 = .ok (.invokestatic 123, 3) := by decide +kernel
theorem dX11_convoy_128 : decode cX11_convoy 128 = .ok (.goto 4, 3) := by decide +kernel
theorem dX11_convoy_131 : decode cX11_convoy 131 = .ok (.iconst 0, 1) := by decide +kernel
theorem dX11_convoy_132 : decode cX11_convoy 132 = .ok (.iadd, 1) := by decide +kernel
theorem dX11_convoy_133 : decode cX11_convoy 133 = .ok (.istore 7, 2) := by decide +kernel
theorem dX11_convoy_135 : decode cX11_convoy 135 = .ok (.iinc 8 1, 3) := by decide +kernel
theorem dX11_convoy_138 : decode cX11_convoy 138 = .ok (.goto (-47), 3) := by decide +kernel
theorem dX11_convoy_141 : decode cX11_convoy 141 = .ok (.iload 6, 2) := by decide +kernel
theorem dX11_convoy_143 : decode cX11_convoy 143 = .ok (.iload_n 3, 1) := by decide +kernel
theorem dX11_convoy_144 : decode cX11_convoy 144 = .ok (.iconst (-1), 1) := by decide +kernel
theorem dX11_convoy_145 : decode cX11_convoy 145 = .ok (.ixor, 1) := by decide +kernel
theorem dX11_convoy_146 : decode cX11_convoy 146 = .ok (.iand, 1) := by decide +kernel
theorem dX11_convoy_147 : decode cX11_convoy 147 = .ok (.ifCond .ne 28, 3) := by decide +kernel
theorem dX11_convoy_150 : decode cX11_convoy 150 = .ok (.iload 7, 2) := by decide +kernel
theorem dX11_convoy_152 : decode cX11_convoy 152 = .ok (.iload 4, 2) := by decide +kernel
theorem dX11_convoy_154 : decode cX11_convoy 154 = .ok (.if_icmp .gt 21, 3) := by decide +kernel
theorem dX11_convoy_157 : decode cX11_convoy 157 = .ok (.iload 6, 2) := by decide +kernel
theorem dX11_convoy_159 : decode cX11_convoy 159 = .ok (.invokestatic 238, 3) := by decide +kernel
theorem dX11_convoy_162 : decode cX11_convoy 162 = .ok (.iload 5, 2) := by decide +kernel
theorem dX11_convoy_164 : decode cX11_convoy 164 = .ok (.invokestatic 238, 3) := by decide +kernel
theorem dX11_convoy_167 : decode cX11_convoy 167 = .ok (.if_icmp .le 8, 3) := by decide +kernel
theorem dX11_convoy_170 : decode cX11_convoy 170 = .ok (.iload 6, 2) := by decide +kernel
theorem dX11_convoy_172 : decode cX11_convoy 172 = .ok (.goto 5, 3) := by decide +kernel
theorem dX11_convoy_175 : decode cX11_convoy 175 = .ok (.iload 5, 2) := by decide +kernel
theorem dX11_convoy_177 : decode cX11_convoy 177 = .ok (.istore 5, 2) := by decide +kernel
theorem dX11_convoy_179 : decode cX11_convoy 179 = .ok (.iinc 6 1, 3) := by decide +kernel
theorem dX11_convoy_182 : decode cX11_convoy 182 = .ok (.goto (-103), 3) := by decide +kernel
theorem dX11_convoy_185 : decode cX11_convoy 185 = .ok (.iload 5, 2) := by decide +kernel
theorem dX11_convoy_187 : decode cX11_convoy 187 = .ok (.ireturn, 1) := by decide +kernel
theorem dX11_rudder_0 : decode cX11_rudder 0 = .ok (.aload_n 0, 1) := by decide +kernel
theorem dX11_rudder_1 : decode cX11_rudder 1 = .ok (.iload_n 1, 1) := by decide +kernel
theorem dX11_rudder_2 : decode cX11_rudder 2 = .ok (.invokevirtual 105, 3) := by decide +kernel
theorem dX11_rudder_5 : decode cX11_rudder 5 = .ok (.ifCond .eq 22, 3) := by decide +kernel
theorem dX11_rudder_8 : decode cX11_rudder 8 = .ok (.iload_n 2, 1) := by decide +kernel
theorem dX11_rudder_9 : decode cX11_rudder 9 = .ok (.invokestatic 222, 3) := by decide +kernel
theorem dX11_rudder_12 : decode cX11_rudder 12 = .ok (.ifCond .eq 15, 3) := by decide +kernel
theorem dX11_rudder_15 : decode cX11_rudder 15 = .ok (.iload_n 3, 1) := by decide +kernel
theorem dX11_rudder_16 : decode cX11_rudder 16 = .ok (.i2l, 1) := by decide +kernel
theorem dX11_rudder_17 : decode cX11_rudder 17 = .ok (.lconst 0, 1) := by decide +kernel
theorem dX11_rudder_18 : decode cX11_rudder 18 = .ok (.ldc2_w 241, 3) := by decide +kernel
theorem dX11_rudder_21 : decode cX11_rudder 21 = .ok (.invokestatic 66, 3) := by decide +kernel
theorem dX11_rudder_24 : decode cX11_rudder 24 = .ok (.ifCond .ne 5, 3) := by decide +kernel
theorem dX11_rudder_27 : decode cX11_rudder 27 = .ok (.iconst (-1), 1) := by decide +kernel
theorem dX11_rudder_28 : decode cX11_rudder 28 = .ok (.ireturn, 1) := by decide +kernel
theorem dX11_rudder_29 : decode cX11_rudder 29 = .ok (.iconst 0, 1) := by decide +kernel
theorem dX11_rudder_30 : decode cX11_rudder 30 = .ok (.istore 4, 2) := by decide +kernel
theorem dX11_rudder_32 : decode cX11_rudder 32 = .ok (.iload_n 2, 1) := by decide +kernel
theorem dX11_rudder_33 : decode cX11_rudder 33 = .ok (.istore 5, 2) := by decide +kernel
theorem dX11_rudder_35 : decode cX11_rudder 35 = .ok (.iload 5, 2) := by decide +kernel
theorem dX11_rudder_37 : decode cX11_rudder 37 = .ok (.iload_n 2, 1) := by decide +kernel
theorem dX11_rudder_38 : decode cX11_rudder 38 = .ok (.iload_n 3, 1) := by decide +kernel
theorem dX11_rudder_39 : decode cX11_rudder 39 = .ok (.iadd, 1) := by decide +kernel
theorem dX11_rudder_40 : decode cX11_rudder 40 = .ok (.if_icmp .gt 38, 3) := by decide +kernel
theorem dX11_rudder_43 : decode cX11_rudder 43 = .ok (.aload_n 0, 1) := by decide +kernel
theorem dX11_rudder_44 : decode cX11_rudder 44 = .ok (.iload_n 1, 1) := by decide +kernel
theorem dX11_rudder_45 : decode cX11_rudder 45 = .ok (.iload 5, 2) := by decide +kernel
theorem dX11_rudder_47 : decode cX11_rudder 47 = .ok (.invokevirtual 211, 3) := by decide +kernel
theorem dX11_rudder_50 : decode cX11_rudder 50 = .ok (.iload 4, 2) := by decide +kernel
theorem dX11_rudder_52 : decode cX11_rudder 52 = .ok (.aload_n 0, 1) := by decide +kernel
theorem dX11_rudder_53 : decode cX11_rudder 53 = .ok (.getfield 133, 3) := by decide +kernel
theorem dX11_rudder_56 : decode cX11_rudder 56 = .ok (.bipush (-4), 2) := by decide +kernel
theorem dX11_rudder_58 : decode cX11_rudder 58 = .ok (.if_icmp .ne 10, 3) := by decide +kernel
theorem dX11_rudder_61 : decode cX11_rudder 61 = .ok (.aload_n 0, 1) := by decide +kernel
theorem dX11_rudder_62 : decode cX11_rudder 62 = .ok (.getfield 136, 3) := by decide +kernel
theorem dX11_rudder_65 : decode cX11_rudder 65 = .ok (.goto 4, 3) := by decide +kernel
theorem dX11_rudder_68 : decode cX11_rudder 68 = .ok (.iconst 0, 1) := by decide +kernel
theorem dX11_rudder_69 : decode cX11_rudder 69 = .ok (.ior, 1) := by decide +kernel
theorem dX11_rudder_70 : decode cX11_rudder 70 = .ok (.istore 4, 2) := by decide +kernel
theorem dX11_rudder_72 : decode cX11_rudder 72 = .ok (.iinc 5 1, 3) := by decide +kernel
theorem dX11_rudder_75 : decode cX11_rudder 75 = .ok (.goto (-40), 3) := by decide +kernel
theorem dX11_rudder_78 : decode cX11_rudder 78 = .ok (.iload 4, 2) := by decide +kernel
theorem dX11_rudder_80 : decode cX11_rudder 80 = .ok (.ireturn, 1) := by decide +kernel
theorem dX11_worth_0 : decode cX11_worth 0 = .ok (.aload_n 0, 1) := by decide +kernel
theorem dX11_worth_1 : decode cX11_worth 1 = .ok (.iload_n 1, 1) := by decide +kernel
theorem dX11_worth_2 : decode cX11_worth 2 = .ok (.invokevirtual 105, 3) := by decide +kernel
theorem dX11_worth_5 : decode cX11_worth 5 = .ok (.ifCond .eq 11, 3) := by decide +kernel
theorem dX11_worth_8 : decode cX11_worth 8 = .ok (.aload_n 0, 1) := by decide +kernel
theorem dX11_worth_9 : decode cX11_worth 9 = .ok (.iload_n 2, 1) := by decide +kernel
theorem dX11_worth_10 : decode cX11_worth 10 = .ok (.invokevirtual 87, 3) := by decide +kernel
theorem dX11_worth_13 : decode cX11_worth 13 = .ok (.ifCond .ne 5, 3) := by decide +kernel
theorem dX11_worth_16 : decode cX11_worth 16 = .ok (.iconst (-1), 1) := by decide +kernel
theorem dX11_worth_17 : decode cX11_worth 17 = .ok (.ireturn, 1) := by decide +kernel
theorem dX11_worth_18 : decode cX11_worth 18 = .ok (.aload_n 0, 1) := by decide +kernel
theorem dX11_worth_19 : decode cX11_worth 19 = .ok (.getfield 7, 3) := by decide +kernel
theorem dX11_worth_22 : decode cX11_worth 22 = .ok (.iconst 5, 1) := by decide +kernel
theorem dX11_worth_23 : decode cX11_worth 23 = .ok (.iload_n 2, 1) := by decide +kernel
theorem dX11_worth_24 : decode cX11_worth 24 = .ok (.imul, 1) := by decide +kernel
theorem dX11_worth_25 : decode cX11_worth 25 = .ok (.iconst 3, 1) := by decide +kernel
theorem dX11_worth_26 : decode cX11_worth 26 = .ok (.iadd, 1) := by decide +kernel
theorem dX11_worth_27 : decode cX11_worth 27 = .ok (.iaload, 1) := by decide +kernel
theorem dX11_worth_28 : decode cX11_worth 28 = .ok (.istore_n 3, 1) := by decide +kernel
theorem dX11_worth_29 : decode cX11_worth 29 = .ok (.aload_n 0, 1) := by decide +kernel
theorem dX11_worth_30 : decode cX11_worth 30 = .ok (.getfield 7, 3) := by decide +kernel
theorem dX11_worth_33 : decode cX11_worth 33 = .ok (.iconst 5, 1) := by decide +kernel
theorem dX11_worth_34 : decode cX11_worth 34 = .ok (.iload_n 2, 1) := by decide +kernel
theorem dX11_worth_35 : decode cX11_worth 35 = .ok (.imul, 1) := by decide +kernel
theorem dX11_worth_36 : decode cX11_worth 36 = .ok (.iaload, 1) := by decide +kernel
theorem dX11_worth_37 : decode cX11_worth 37 = .ok (.istore 4, 2) := by decide +kernel
theorem dX11_worth_39 : decode cX11_worth 39 = .ok (.iconst 0, 1) := by decide +kernel
theorem dX11_worth_40 : decode cX11_worth 40 = .ok (.istore 5, 2) := by decide +kernel
theorem dX11_worth_42 : decode cX11_worth 42 = .ok (.iconst 0, 1) := by decide +kernel
theorem dX11_worth_43 : decode cX11_worth 43 = .ok (.istore 6, 2) := by decide +kernel
theorem dX11_worth_45 : decode cX11_worth 45 = .ok (.iload 6, 2) := by decide +kernel
theorem dX11_worth_47 : decode cX11_worth 47 = .ok (.bipush 60, 2) := by decide +kernel
theorem dX11_worth_49 : decode cX11_worth 49 = .ok (.if_icmp .ge 107, 3) := by decide +kernel
theorem dX11_worth_52 : decode cX11_worth 52 = .ok (.aload_n 0, 1) := by decide +kernel
theorem dX11_worth_53 : decode cX11_worth 53 = .ok (.iload_n 1, 1) := by decide +kernel
theorem dX11_worth_54 : decode cX11_worth 54 = .ok (.iload 6, 2) := by decide +kernel
theorem dX11_worth_56 : decode cX11_worth 56 = .ok (.invokevirtual 211, 3) := by decide +kernel
theorem dX11_worth_59 : decode cX11_worth 59 = .ok (.iload 5, 2) := by decide +kernel
theorem dX11_worth_61 : decode cX11_worth 61 = .ok (.aload_n 0, 1) := by decide +kernel
theorem dX11_worth_62 : decode cX11_worth 62 = .ok (.invokevirtual 243, 3) := by decide +kernel
theorem dX11_worth_65 : decode cX11_worth 65 = .ok (.ifCond .eq 7, 3) := by decide +kernel
theorem dX11_worth_68 : decode cX11_worth 68 = .ok (.iconst 1, 1) := by decide +kernel
theorem dX11_worth_69 : decode cX11_worth 69 = .ok (.goto 4, 3) := by decide +kernel
theorem dX11_worth_72 : decode cX11_worth 72 = .ok (.iconst 0, 1) := by decide +kernel
theorem dX11_worth_73 : decode cX11_worth 73 = .ok (.isub, 1) := by decide +kernel
theorem dX11_worth_74 : decode cX11_worth 74 = .ok (.istore 5, 2) := by decide +kernel
theorem dX11_worth_76 : decode cX11_worth 76 = .ok (.aload_n 0, 1) := by decide +kernel
theorem dX11_worth_77 : decode cX11_worth 77 = .ok (.getfield 7, 3) := by decide +kernel
theorem dX11_worth_80 : decode cX11_worth 80 = .ok (.iconst 5, 1) := by decide +kernel
theorem dX11_worth_81 : decode cX11_worth 81 = .ok (.iload_n 2, 1) := by decide +kernel
theorem dX11_worth_82 : decode cX11_worth 82 = .ok (.imul, 1) := by decide +kernel
theorem dX11_worth_83 : decode cX11_worth 83 = .ok (.iconst 0, 1) := by decide +kernel
theorem dX11_worth_84 : decode cX11_worth 84 = .ok (.iastore, 1) := by decide +kernel
theorem dX11_worth_85 : decode cX11_worth 85 = .ok (.aload_n 0, 1) := by decide +kernel
theorem dX11_worth_86 : decode cX11_worth 86 = .ok (.getfield 7, 3) := by decide +kernel
theorem dX11_worth_89 : decode cX11_worth 89 = .ok (.iconst 5, 1) := by decide +kernel
theorem dX11_worth_90 : decode cX11_worth 90 = .ok (.iload_n 2, 1) := by decide +kernel
theorem dX11_worth_91 : decode cX11_worth 91 = .ok (.imul, 1) := by decide +kernel
theorem dX11_worth_92 : decode cX11_worth 92 = .ok (.iconst 3, 1) := by decide +kernel
theorem dX11_worth_93 : decode cX11_worth 93 = .ok (.iadd, 1) := by decide +kernel
theorem dX11_worth_94 : decode cX11_worth 94 = .ok (.aload_n 0, 1) := by decide +kernel
theorem dX11_worth_95 : decode cX11_worth 95 = .ok (.getfield 7, 3) := by decide +kernel
theorem dX11_worth_98 : decode cX11_worth 98 = .ok (.iconst 5, 1) := by decide +kernel
theorem dX11_worth_99 : decode cX11_worth 99 = .ok (.iload_n 2, 1) := by decide +kernel
theorem dX11_worth_100 : decode cX11_worth 100 = .ok (.imul, 1) := by decide +kernel
theorem dX11_worth_101 : decode cX11_worth 101 = .ok (.iconst 2, 1) := by decide +kernel
theorem dX11_worth_102 : decode cX11_worth 102 = .ok (.iadd, 1) := by decide +kernel
theorem dX11_worth_103 : decode cX11_worth 103 = .ok (.iaload, 1) := by decide +kernel
theorem dX11_worth_104 : decode cX11_worth 104 = .ok (.iastore, 1) := by decide +kernel
theorem dX11_worth_105 : decode cX11_worth 105 = .ok (.aload_n 0, 1) := by decide +kernel
theorem dX11_worth_106 : decode cX11_worth 106 = .ok (.iload_n 1, 1) := by decide +kernel
theorem dX11_worth_107 : decode cX11_worth 107 = .ok (.iload 6, 2) := by decide +kernel
theorem dX11_worth_109 : decode cX11_worth 109 = .ok (.invokevirtual 211, 3) := by decide +kernel
theorem dX11_worth_112 : decode cX11_worth 112 = .ok (.iload 5, 2) := by decide +kernel
theorem dX11_worth_114 : decode cX11_worth 114 = .ok (.aload_n 0, 1) := by decide +kernel
theorem dX11_worth_115 : decode cX11_worth 115 = .ok (.invokevirtual 243, 3) := by decide +kernel
theorem dX11_worth_118 : decode cX11_worth 118 = .ok (.ifCond .eq 7, 3) := by decide +kernel
theorem dX11_worth_121 : decode cX11_worth 121 = .ok (.iconst 1, 1) := by decide +kernel
theorem dX11_worth_122 : decode cX11_worth 122 = .ok (.goto 4, 3) := by decide +kernel
theorem dX11_worth_125 : decode cX11_worth 125 = .ok (.iconst 0, 1) := by decide +kernel
theorem dX11_worth_126 : decode cX11_worth 126 = .ok (.iadd, 1) := by decide +kernel
theorem dX11_worth_127 : decode cX11_worth 127 = .ok (.istore 5, 2) := by decide +kernel
theorem dX11_worth_129 : decode cX11_worth 129 = .ok (.aload_n 0, 1) := by decide +kernel
theorem dX11_worth_130 : decode cX11_worth 130 = .ok (.getfield 7, 3) := by decide +kernel
theorem dX11_worth_133 : decode cX11_worth 133 = .ok (.iconst 5, 1) := by decide +kernel
theorem dX11_worth_134 : decode cX11_worth 134 = .ok (.iload_n 2, 1) := by decide +kernel
theorem dX11_worth_135 : decode cX11_worth 135 = .ok (.imul, 1) := by decide +kernel
theorem dX11_worth_136 : decode cX11_worth 136 = .ok (.iload 4, 2) := by decide +kernel
theorem dX11_worth_138 : decode cX11_worth 138 = .ok (.iastore, 1) := by decide +kernel
theorem dX11_worth_139 : decode cX11_worth 139 = .ok (.aload_n 0, 1) := by decide +kernel
theorem dX11_worth_140 : decode cX11_worth 140 = .ok (.getfield 7, 3) := by decide +kernel
theorem dX11_worth_143 : decode cX11_worth 143 = .ok (.iconst 5, 1) := by decide +kernel
theorem dX11_worth_144 : decode cX11_worth 144 = .ok (.iload_n 2, 1) := by decide +kernel
theorem dX11_worth_145 : decode cX11_worth 145 = .ok (.imul, 1) := by decide +kernel
theorem dX11_worth_146 : decode cX11_worth 146 = .ok (.iconst 3, 1) := by decide +kernel
theorem dX11_worth_147 : decode cX11_worth 147 = .ok (.iadd, 1) := by decide +kernel
theorem dX11_worth_148 : decode cX11_worth 148 = .ok (.iload_n 3, 1) := by decide +kernel
theorem dX11_worth_149 : decode cX11_worth 149 = .ok (.iastore, 1) := by decide +kernel
theorem dX11_worth_150 : decode cX11_worth 150 = .ok (.iinc 6 1, 3) := by decide +kernel
theorem dX11_worth_153 : decode cX11_worth 153 = .ok (.goto (-108), 3) := by decide +kernel
theorem dX11_worth_156 : decode cX11_worth 156 = .ok (.iload 5, 2) := by decide +kernel
theorem dX11_worth_158 : decode cX11_worth 158 = .ok (.ireturn, 1) := by decide +kernel
theorem dX11_look_0 : decode cX11_look 0 = .ok (.iload_n 1, 1) := by decide +kernel
theorem dX11_look_1 : decode cX11_look 1 = .ok (.invokestatic 222, 3) := by decide +kernel
theorem dX11_look_4 : decode cX11_look 4 = .ok (.ifCond .eq 13, 3) := by decide +kernel
theorem dX11_look_7 : decode cX11_look 7 = .ok (.iload_n 2, 1) := by decide +kernel
theorem dX11_look_8 : decode cX11_look 8 = .ok (.i2l, 1) := by decide +kernel
theorem dX11_look_9 : decode cX11_look 9 = .ok (.lconst 0, 1) := by decide +kernel
theorem dX11_look_10 : decode cX11_look 10 = .ok (.lconst 1, 1) := by decide +kernel
theorem dX11_look_11 : decode cX11_look 11 = .ok (.invokestatic 66, 3) := by decide +kernel
theorem dX11_look_14 : decode cX11_look 14 = .ok (.ifCond .ne 5, 3) := by decide +kernel
theorem dX11_look_17 : decode cX11_look 17 = .ok (.iconst (-1), 1) := by decide +kernel
theorem dX11_look_18 : decode cX11_look 18 = .ok (.ireturn, 1) := by decide +kernel
theorem dX11_look_19 : decode cX11_look 19 = .ok (.aload_n 0, 1) := by decide +kernel
theorem dX11_look_20 : decode cX11_look 20 = .ok (.getfield 200, 3) := by decide +kernel
theorem dX11_look_23 : decode cX11_look 23 = .ok (.bipush 12, 2) := by decide +kernel
theorem dX11_look_25 : decode cX11_look 25 = .ok (.if_icmp .ne 6, 3) := by decide +kernel
theorem dX11_look_28 : decode cX11_look 28 = .ok (.bipush (-3), 2) := by decide +kernel
theorem dX11_look_30 : decode cX11_look 30 = .ok (.ireturn, 1) := by decide +kernel
theorem dX11_look_31 : decode cX11_look 31 = .ok (.aload_n 0, 1) := by decide +kernel
theorem dX11_look_32 : decode cX11_look 32 = .ok (.getfield 41, 3) := by decide +kernel
theorem dX11_look_35 : decode cX11_look 35 = .ok (.aload_n 0, 1) := by decide +kernel
theorem dX11_look_36 : decode cX11_look 36 = .ok (.getfield 200, 3) := by decide +kernel
theorem dX11_look_39 : decode cX11_look 39 = .ok (.iload_n 1, 1) := by decide +kernel
theorem dX11_look_40 : decode cX11_look 40 = .ok (.iastore, 1) := by decide +kernel
theorem dX11_look_41 : decode cX11_look 41 = .ok (.aload_n 0, 1) := by decide +kernel
theorem dX11_look_42 : decode cX11_look 42 = .ok (.getfield 44, 3) := by decide +kernel
theorem dX11_look_45 : decode cX11_look 45 = .ok (.aload_n 0, 1) := by decide +kernel
theorem dX11_look_46 : decode cX11_look 46 = .ok (.getfield 200, 3) := by decide +kernel
theorem dX11_look_49 : decode cX11_look 49 = .ok (.iload_n 2, 1) := by decide +kernel
theorem dX11_look_50 : decode cX11_look 50 = .ok (.iastore, 1) := by decide +kernel
theorem dX11_look_51 : decode cX11_look 51 = .ok (.aload_n 0, 1) := by decide +kernel
theorem dX11_look_52 : decode cX11_look 52 = .ok (.dup, 1) := by decide +kernel
theorem dX11_look_53 : decode cX11_look 53 = .ok (.getfield 200, 3) := by decide +kernel
theorem dX11_look_56 : decode cX11_look 56 = .ok (.iconst 1, 1) := by decide +kernel
theorem dX11_look_57 : decode cX11_look 57 = .ok (.iadd, 1) := by decide +kernel
theorem dX11_look_58 : decode cX11_look 58 = .ok (.putfield 200, 3) := by decide +kernel
theorem dX11_look_61 : decode cX11_look 61 = .ok (.aload_n 0, 1) := by decide +kernel
theorem dX11_look_62 : decode cX11_look 62 = .ok (.getfield 200, 3) := by decide +kernel
theorem dX11_look_65 : decode cX11_look 65 = .ok (.ireturn, 1) := by decide +kernel
theorem dX11_forget_0 : decode cX11_forget 0 = .ok (.aload_n 0, 1) := by decide +kernel
theorem dX11_forget_1 : decode cX11_forget 1 = .ok (.getfield 200, 3) := by decide +kernel
theorem dX11_forget_4 : decode cX11_forget 4 = .ok (.istore_n 1, 1) := by decide +kernel
theorem dX11_forget_5 : decode cX11_forget 5 = .ok (.aload_n 0, 1) := by decide +kernel
theorem dX11_forget_6 : decode cX11_forget 6 = .ok (.iconst 0, 1) := by decide +kernel
theorem dX11_forget_7 : decode cX11_forget 7 = .ok (.putfield 200, 3) := by decide +kernel
theorem dX11_forget_10 : decode cX11_forget 10 = .ok (.iload_n 1, 1) := by decide +kernel
theorem dX11_forget_11 : decode cX11_forget 11 = .ok (.ireturn, 1) := by decide +kernel
theorem dX11_isSo_0 : decode cX11_isSo 0 = .ok (.iload_n 0, 1) := by decide +kernel
theorem dX11_isSo_1 : decode cX11_isSo 1 = .ok (.iload_n 3, 1) := by decide +kernel
theorem dX11_isSo_2 : decode cX11_isSo 2 = .ok (.iadd, 1) := by decide +kernel
theorem dX11_isSo_3 : decode cX11_isSo 3 = .ok (.iload_n 1, 1) := by decide +kernel
theorem dX11_isSo_4 : decode cX11_isSo 4 = .ok (.irem, 1) := by decide +kernel
theorem dX11_isSo_5 : decode cX11_isSo 5 = .ok (.iload_n 2, 1) := by decide +kernel
theorem dX11_isSo_6 : decode cX11_isSo 6 = .ok (.if_icmp .ge 7, 3) := by decide +kernel
theorem dX11_isSo_9 : decode cX11_isSo 9 = .ok (.iconst 1, 1) := by decide +kernel
theorem dX11_isSo_10 : decode cX11_isSo 10 = .ok (.goto 4, 3) := by decide +kernel
theorem dX11_isSo_13 : decode cX11_isSo 13 = .ok (.iconst 0, 1) := by decide +kernel
theorem dX11_isSo_14 : decode cX11_isSo 14 = .ok (.ireturn, 1) := by decide +kernel
theorem dX11_fit_0 : decode cX11_fit 0 = .ok (.aload_n 0, 1) := by decide +kernel
theorem dX11_fit_1 : decode cX11_fit 1 = .ok (.iconst 0, 1) := by decide +kernel
theorem dX11_fit_2 : decode cX11_fit 2 = .ok (.putfield 247, 3) := by decide +kernel
theorem dX11_fit_5 : decode cX11_fit 5 = .ok (.aload_n 0, 1) := by decide +kernel
theorem dX11_fit_6 : decode cX11_fit 6 = .ok (.bipush (-4), 2) := by decide +kernel
theorem dX11_fit_8 : decode cX11_fit 8 = .ok (.putfield 250, 3) := by decide +kernel
theorem dX11_fit_11 : decode cX11_fit 11 = .ok (.aload_n 0, 1) := by decide +kernel
theorem dX11_fit_12 : decode cX11_fit 12 = .ok (.iconst 0, 1) := by decide +kernel
theorem dX11_fit_13 : decode cX11_fit 13 = .ok (.putfield 253, 3) := by decide +kernel
theorem dX11_fit_16 : decode cX11_fit 16 = .ok (.iconst 2, 1) := by decide +kernel
theorem dX11_fit_17 : decode cX11_fit 17 = .ok (.istore_n 2, 1) := by decide +kernel
theorem dX11_fit_18 : decode cX11_fit 18 = .ok (.iload_n 2, 1) := by decide +kernel
theorem dX11_fit_19 : decode cX11_fit 19 = .ok (.bipush 25, 2) := by decide +kernel
theorem dX11_fit_21 : decode cX11_fit 21 = .ok (.if_icmp .ge 175, 3) := by decide +kernel
theorem dX11_fit_24 : decode cX11_fit 24 = .ok (.iconst 1, 1) := by decide +kernel
theorem dX11_fit_25 : decode cX11_fit 25 = .ok (.istore_n 3, 1) := by decide +kernel
theorem dX11_fit_26 : decode cX11_fit 26 = .ok (.iload_n 3, 1) := by decide +kernel
theorem dX11_fit_27 : decode cX11_fit 27 = .ok (.iload_n 2, 1) := by decide +kernel
theorem dX11_fit_28 : decode cX11_fit 28 = .ok (.if_icmp .ge 162, 3) := by decide +kernel
theorem dX11_fit_31 : decode cX11_fit 31 = .ok (.iconst 0, 1) := by decide +kernel
theorem dX11_fit_32 : decode cX11_fit 32 = .ok (.istore 4, 2) := by decide +kernel
theorem dX11_fit_34 : decode cX11_fit 34 = .ok (.iload 4, 2) := by decide +kernel
theorem dX11_fit_36 : decode cX11_fit 36 = .ok (.iload_n 2, 1) := by decide +kernel
theorem dX11_fit_37 : decode cX11_fit 37 = .ok (.if_icmp .ge 147, 3) := by decide +kernel
theorem dX11_fit_40 : decode cX11_fit 40 = .ok (.iconst 1, 1) := by decide +kernel
theorem dX11_fit_41 : decode cX11_fit 41 = .ok (.istore 5, 2) := by decide +kernel
theorem dX11_fit_43 : decode cX11_fit 43 = .ok (.iconst 0, 1) := by decide +kernel
theorem dX11_fit_44 : decode cX11_fit 44 = .ok (.istore 6, 2) := by decide +kernel
theorem dX11_fit_46 : decode cX11_fit 46 = .ok (.iload 6, 2) := by decide +kernel
theorem dX11_fit_48 : decode cX11_fit 48 = .ok (.aload_n 0, 1) := by decide +kernel
theorem dX11_fit_49 : decode cX11_fit 49 = .ok (.getfield 200, 3) := by decide +kernel
theorem dX11_fit_52 : decode cX11_fit 52 = .ok (.if_icmp .ge 45, 3) := by decide +kernel
theorem dX11_fit_55 : decode cX11_fit 55 = .ok (.iload 5, 2) := by decide +kernel
theorem dX11_fit_57 : decode cX11_fit 57 = .ok (.ifCond .eq 40, 3) := by decide +kernel
theorem dX11_fit_60 : decode cX11_fit 60 = .ok (.aload_n 0, 1) := by decide +kernel
theorem dX11_fit_61 : decode cX11_fit 61 = .ok (.getfield 41, 3) := by decide +kernel
theorem dX11_fit_64 : decode cX11_fit 64 = .ok (.iload 6, 2) := by decide +kernel
theorem dX11_fit_66 : decode cX11_fit 66 = .ok (.iaload, 1) := by decide +kernel
theorem dX11_fit_67 : decode cX11_fit 67 = .ok (.iload_n 2, 1) := by decide +kernel
theorem dX11_fit_68 : decode cX11_fit 68 = .ok (.iload_n 3, 1) := by decide +kernel
theorem dX11_fit_69 : decode cX11_fit 69 = .ok (.iload 4, 2) := by decide +kernel
theorem dX11_fit_71 : decode cX11_fit 71 = .ok (.invokestatic 256, 3) := by decide +kernel
theorem dX11_fit_74 : decode cX11_fit 74 = .ok (.aload_n 0, 1) := by decide +kernel
theorem dX11_fit_75 : decode cX11_fit 75 = .ok (.getfield 44, 3) := by decide +kernel
theorem dX11_fit_78 : decode cX11_fit 78 = .ok (.iload 6, 2) := by decide +kernel
theorem dX11_fit_80 : decode cX11_fit 80 = .ok (.iaload, 1) := by decide +kernel
theorem dX11_fit_81 : decode cX11_fit 81 = .ok (.if_icmp .ne 7, 3) := by decide +kernel
theorem dX11_fit_84 : decode cX11_fit 84 = .ok (.iconst 1, 1) := by decide +kernel
theorem dX11_fit_85 : decode cX11_fit 85 = .ok (.goto 4, 3) := by decide +kernel
theorem dX11_fit_88 : decode cX11_fit 88 = .ok (.iconst 0, 1) := by decide +kernel
theorem dX11_fit_89 : decode cX11_fit 89 = .ok (.istore 5, 2) := by decide +kernel
theorem dX11_fit_91 : decode cX11_fit 91 = .ok (.iinc 6 1, 3) := by decide +kernel
theorem dX11_fit_94 : decode cX11_fit 94 = .ok (.goto (-48), 3) := by decide +kernel
theorem dX11_fit_97 : decode cX11_fit 97 = .ok (.aload_n 0, 1) := by decide +kernel
theorem dX11_fit_98 : decode cX11_fit 98 = .ok (.iload 5, 2) := by decide +kernel
theorem dX11_fit_100 : decode cX11_fit 100 = .ok (.ifCond .eq 26, 3) := by decide +kernel
theorem dX11_fit_103 : decode cX11_fit 103 = .ok (.aload_n 0, 1) := by decide +kernel
theorem dX11_fit_104 : decode cX11_fit 104 = .ok (.getfield 247, 3) := by decide +kernel
theorem dX11_fit_107 : decode cX11_fit 107 = .ok (.ifCond .ne 19, 3) := by decide +kernel
theorem dX11_fit_110 : decode cX11_fit 110 = .ok (.sipush 10000, 3) := by decide +kernel
theorem dX11_fit_113 : decode cX11_fit 113 = .ok (.iload_n 2, 1) := by decide +kernel
theorem dX11_fit_114 : decode cX11_fit 114 = .ok (.imul, 1) := by decide +kernel
theorem dX11_fit_115 : decode cX11_fit 115 = .ok (.bipush 100, 2) := by decide +kernel
theorem dX11_fit_117 : decode cX11_fit 117 = .ok (.iload_n 3, 1) := by decide +kernel
theorem dX11_fit_118 : decode cX11_fit 118 = .ok (.imul, 1) := by decide +kernel
theorem dX11_fit_119 : decode cX11_fit 119 = .ok (.iadd, 1) := by decide +kernel
theorem dX11_fit_120 : decode cX11_fit 120 = .ok (.iload 4, 2) := by decide +kernel
theorem dX11_fit_122 : decode cX11_fit 122 = .ok (.iadd, 1) := by decide +kernel
theorem dX11_fit_123 : decode cX11_fit 123 = .ok (.goto 7, 3) := by decide +kernel
theorem dX11_fit_126 : decode cX11_fit 126 = .ok (.aload_n 0, 1) := by decide +kernel
theorem dX11_fit_127 : decode cX11_fit 127 = .ok (.getfield 250, 3) := by decide +kernel
theorem dX11_fit_130 : decode cX11_fit 130 = .ok (.putfield 250, 3) := by decide +kernel
theorem dX11_fit_133 : decode cX11_fit 133 = .ok (.aload_n 0, 1) := by decide +kernel
theorem dX11_fit_134 : decode cX11_fit 134 = .ok (.dup, 1) := by decide +kernel
theorem dX11_fit_135 : decode cX11_fit 135 = .ok (.getfield 247, 3) := by decide +kernel
theorem dX11_fit_138 : decode cX11_fit 138 = .ok (.iload 5, 2) := by decide +kernel
theorem dX11_fit_140 : decode cX11_fit 140 = .ok (.ifCond .eq 7, 3) := by decide +kernel
theorem dX11_fit_143 : decode cX11_fit 143 = .ok (.iconst 1, 1) := by decide +kernel
theorem dX11_fit_144 : decode cX11_fit 144 = .ok (.goto 4, 3) := by decide +kernel
theorem dX11_fit_147 : decode cX11_fit 147 = .ok (.iconst 0, 1) := by decide +kernel
theorem dX11_fit_148 : decode cX11_fit 148 = .ok (.iadd, 1) := by decide +kernel
theorem dX11_fit_149 : decode cX11_fit 149 = .ok (.putfield 247, 3) := by decide +kernel
theorem dX11_fit_152 : decode cX11_fit 152 = .ok (.aload_n 0, 1) := by decide +kernel
theorem dX11_fit_153 : decode cX11_fit 153 = .ok (.dup, 1) := by decide +kernel
theorem dX11_fit_154 : decode cX11_fit 154 = .ok (.getfield 253, 3) := by decide +kernel
theorem dX11_fit_157 : decode cX11_fit 157 = .ok (.iload 5, 2) := by decide +kernel
theorem dX11_fit_159 : decode cX11_fit 159 = .ok (.ifCond .eq 14, 3) := by decide +kernel
theorem dX11_fit_162 : decode cX11_fit 162 = .ok (.iload_n 1, 1) := by decide +kernel
theorem dX11_fit_163 : decode cX11_fit 163 = .ok (.iload_n 2, 1) := by decide +kernel
theorem dX11_fit_164 : decode cX11_fit 164 = .ok (.iload_n 3, 1) := by decide +kernel
theorem dX11_fit_165 : decode cX11_fit 165 = .ok (.iload 4, 2) := by decide +kernel
theorem dX11_fit_167 : decode cX11_fit 167 = .ok (.invokestatic 256, 3) := by decide +kernel
theorem dX11_fit_170 : decode cX11_fit 170 = .ok (.goto 4, 3) := by decide +kernel
theorem dX11_fit_173 : decode cX11_fit 173 = .ok (.iconst 0, 1) := by decide +kernel
theorem dX11_fit_174 : decode cX11_fit 174 = .ok (.iadd, 1) := by decide +kernel
theorem dX11_fit_175 : decode cX11_fit 175 = .ok (.putfield 253, 3) := by decide +kernel
theorem dX11_fit_178 : decode cX11_fit 178 = .ok (.iinc 4 1, 3) := by decide +kernel
theorem dX11_fit_181 : decode cX11_fit 181 = .ok (.goto (-147), 3) := by decide +kernel
theorem dX11_fit_184 : decode cX11_fit 184 = .ok (.iinc 3 1, 3) := by decide +kernel
theorem dX11_fit_187 : decode cX11_fit 187 = .ok (.goto (-161), 3) := by decide +kernel
theorem dX11_fit_190 : decode cX11_fit 190 = .ok (.iinc 2 1, 3) := by decide +kernel
theorem dX11_fit_193 : decode cX11_fit 193 = .ok (.goto (-175), 3) := by decide +kernel
theorem dX11_fit_196 : decode cX11_fit 196 = .ok (.return_, 1) := by decide +kernel
theorem dX11_fits_0 : decode cX11_fits 0 = .ok (.iload_n 1, 1) := by decide +kernel
theorem dX11_fits_1 : decode cX11_fits 1 = .ok (.i2l, 1) := by decide +kernel
theorem dX11_fits_2 : decode cX11_fits 2 = .ok (.lconst 0, 1) := by decide +kernel
theorem dX11_fits_3 : decode cX11_fits 3 = .ok (.lconst 1, 1) := by decide +kernel
theorem dX11_fits_4 : decode cX11_fits 4 = .ok (.invokestatic 66, 3) := by decide +kernel
theorem dX11_fits_7 : decode cX11_fits 7 = .ok (.ifCond .ne 5, 3) := by decide +kernel
theorem dX11_fits_10 : decode cX11_fits 10 = .ok (.iconst (-1), 1) := by decide +kernel
theorem dX11_fits_11 : decode cX11_fits 11 = .ok (.ireturn, 1) := by decide +kernel
theorem dX11_fits_12 : decode cX11_fits 12 = .ok (.aload_n 0, 1) := by decide +kernel
theorem dX11_fits_13 : decode cX11_fits 13 = .ok (.iconst 0, 1) := by decide +kernel
theorem dX11_fits_14 : decode cX11_fits 14 = .ok (.invokevirtual 259, 3) := by decide +kernel
theorem dX11_fits_17 : decode cX11_fits 17 = .ok (.iload_n 1, 1) := by decide +kernel
theorem dX11_fits_18 : decode cX11_fits 18 = .ok (.ifCond .ne 10, 3) := by decide +kernel
theorem dX11_fits_21 : decode cX11_fits 21 = .ok (.aload_n 0, 1) := by decide +kernel
theorem dX11_fits_22 : decode cX11_fits 22 = .ok (.getfield 247, 3) := by decide +kernel
theorem dX11_fits_25 : decode cX11_fits 25 = .ok (.goto 7, 3) := by decide +kernel
theorem dX11_fits_28 : decode cX11_fits 28 = .ok (.aload_n 0, 1) := by decide +kernel
theorem dX11_fits_29 : decode cX11_fits 29 = .ok (.getfield 250, 3) := by decide +kernel
theorem dX11_fits_32 : decode cX11_fits 32 = .ok (.ireturn, 1) := by decide +kernel
theorem dX11_foretell_0 : decode cX11_foretell 0 = .ok (.iload_n 1, 1) := by decide +kernel
theorem dX11_foretell_1 : decode cX11_foretell 1 = .ok (.invokestatic 222, 3) := by decide +kernel
theorem dX11_foretell_4 : decode cX11_foretell 4 = .ok (.ifCond .ne 5, 3) := by decide +kernel
theorem dX11_foretell_7 : decode cX11_foretell 7 = .ok (.iconst (-1), 1) := by decide +kernel
theorem dX11_foretell_8 : decode cX11_foretell 8 = .ok (.ireturn, 1) := by decide +kernel
theorem dX11_foretell_9 : decode cX11_foretell 9 = .ok (.aload_n 0, 1) := by decide +kernel
theorem dX11_foretell_10 : decode cX11_foretell 10 = .ok (.iload_n 1, 1) := by decide +kernel
theorem dX11_foretell_11 : decode cX11_foretell 11 = .ok (.invokevirtual 259, 3) := by decide +kernel
theorem dX11_foretell_14 : decode cX11_foretell 14 = .ok (.aload_n 0, 1) := by decide +kernel
theorem dX11_foretell_15 : decode cX11_foretell 15 = .ok (.getfield 247, 3) := by decide +kernel
theorem dX11_foretell_18 : decode cX11_foretell 18 = .ok (.ifCond .ne 8, 3) := by decide +kernel
theorem dX11_foretell_21 : decode cX11_foretell 21 = .ok (.bipush (-4), 2) := by decide +kernel
theorem dX11_foretell_23 : decode cX11_foretell 23 = .ok (.goto 30, 3) := by decide +kernel
theorem dX11_foretell_26 : decode cX11_foretell 26 = .ok (.aload_n 0, 1) := by decide +kernel
theorem dX11_foretell_27 : decode cX11_foretell 27 = .ok (.getfield 253, 3) := by decide +kernel
theorem dX11_foretell_30 : decode cX11_foretell 30 = .ok (.aload_n 0, 1) := by decide +kernel
theorem dX11_foretell_31 : decode cX11_foretell 31 = .ok (.getfield 247, 3) := by decide +kernel
theorem dX11_foretell_34 : decode cX11_foretell 34 = .ok (.if_icmp .ne 7, 3) := by decide +kernel
theorem dX11_foretell_37 : decode cX11_foretell 37 = .ok (.iconst 1, 1) := by decide +kernel
theorem dX11_foretell_38 : decode cX11_foretell 38 = .ok (.goto 15, 3) := by decide +kernel
theorem dX11_foretell_41 : decode cX11_foretell 41 = .ok (.aload_n 0, 1) := by decide +kernel
theorem dX11_foretell_42 : decode cX11_foretell 42 = .ok (.getfield 253, 3) := by decide +kernel
theorem dX11_foretell_45 : decode cX11_foretell 45 = .ok (.ifCond .ne 7, 3) := by decide +kernel
theorem dX11_foretell_48 : decode cX11_foretell 48 = .ok (.iconst 0, 1) := by decide +kernel
theorem dX11_foretell_49 : decode cX11_foretell 49 = .ok (.goto 4, 3) := by decide +kernel
theorem dX11_foretell_52 : decode cX11_foretell 52 = .ok (.iconst 2, 1) := by decide +kernel
theorem dX11_foretell_53 : decode cX11_foretell 53 = .ok (.ireturn, 1) := by decide +kernel
theorem dX11_next_0 : decode cX11_next 0 = .ok (.iload_n 1, 1) := by decide +kernel
theorem dX11_next_1 : decode cX11_next 1 = .ok (.invokestatic 222, 3) := by decide +kernel
theorem dX11_next_4 : decode cX11_next 4 = .ok (.ifCond .eq 13, 3) := by decide +kernel
theorem dX11_next_7 : decode cX11_next 7 = .ok (.iload_n 2, 1) := by decide +kernel
theorem dX11_next_8 : decode cX11_next 8 = .ok (.i2l, 1) := by decide +kernel
theorem dX11_next_9 : decode cX11_next 9 = .ok (.lconst 0, 1) := by decide +kernel
theorem dX11_next_10 : decode cX11_next 10 = .ok (.lconst 1, 1) := by decide +kernel
theorem dX11_next_11 : decode cX11_next 11 = .ok (.invokestatic 66, 3) := by decide +kernel
theorem dX11_next_14 : decode cX11_next 14 = .ok (.ifCond .ne 5, 3) := by decide +kernel
theorem dX11_next_17 : decode cX11_next 17 = .ok (.iconst (-1), 1) := by decide +kernel
theorem dX11_next_18 : decode cX11_next 18 = .ok (.ireturn, 1) := by decide +kernel
theorem dX11_next_19 : decode cX11_next 19 = .ok (.bipush (-4), 2) := by decide +kernel
theorem dX11_next_21 : decode cX11_next 21 = .ok (.istore_n 3, 1) := by decide +kernel
theorem dX11_next_22 : decode cX11_next 22 = .ok (.ldc 214, 2) := by decide +kernel
theorem dX11_next_24 : decode cX11_next 24 = .ok (.istore 4, 2) := by decide +kernel
theorem dX11_next_26 : decode cX11_next 26 = .ok (.iload_n 1, 1) := by decide +kernel
theorem dX11_next_27 : decode cX11_next 27 = .ok (.istore 5, 2) := by decide +kernel
theorem dX11_next_29 : decode cX11_next 29 = .ok (.iload 5, 2) := by decide +kernel
theorem dX11_next_31 : decode cX11_next 31 = .ok (.iload_n 1, 1) := by decide +kernel
theorem dX11_next_32 : decode cX11_next 32 = .ok (.bipush 60, 2) := by decide +kernel
theorem dX11_next_34 : decode cX11_next 34 = .ok (.iadd, 1) := by decide +kernel
theorem dX11_next_35 : decode cX11_next 35 = .ok (.if_icmp .ge 89, 3) := by decide +kernel
theorem dX11_next_38 : decode cX11_next 38 = .ok (.aload_n 0, 1) := by decide +kernel
theorem dX11_next_39 : decode cX11_next 39 = .ok (.iload 5, 2) := by decide +kernel
theorem dX11_next_41 : decode cX11_next 41 = .ok (.invokevirtual 259, 3) := by decide +kernel
theorem dX11_next_44 : decode cX11_next 44 = .ok (.aload_n 0, 1) := by decide +kernel
theorem dX11_next_45 : decode cX11_next 45 = .ok (.getfield 247, 3) := by decide +kernel
theorem dX11_next_48 : decode cX11_next 48 = .ok (.ifCond .ne 6, 3) := by decide +kernel
theorem dX11_next_51 : decode cX11_next 51 = .ok (.bipush (-4), 2) := by decide +kernel
theorem dX11_next_53 : decode cX11_next 53 = .ok (.ireturn, 1) := by decide +kernel
theorem dX11_next_54 : decode cX11_next 54 = .ok (.aload_n 0, 1) := by decide +kernel
theorem dX11_next_55 : decode cX11_next 55 = .ok (.getfield 253, 3) := by decide +kernel
theorem dX11_next_58 : decode cX11_next 58 = .ok (.aload_n 0, 1) := by decide +kernel
theorem dX11_next_59 : decode cX11_next 59 = .ok (.getfield 247, 3) := by decide +kernel
theorem dX11_next_62 : decode cX11_next 62 = .ok (.aload_n 0, 1) := by decide +kernel
theorem dX11_next_63 : decode cX11_next 63 = .ok (.getfield 253, 3) := by decide +kernel
theorem dX11_next_66 : decode cX11_next 66 = .ok (.isub, 1) := by decide +kernel
theorem dX11_next_67 : decode cX11_next 67 = .ok (.if_icmp .le 10, 3) := by decide +kernel
theorem dX11_next_70 : decode cX11_next 70 = .ok (.aload_n 0, 1) := by decide +kernel
theorem dX11_next_71 : decode cX11_next 71 = .ok (.getfield 253, 3) := by decide +kernel
theorem dX11_next_74 : decode cX11_next 74 = .ok (.goto 12, 3) := by decide +kernel
theorem dX11_next_77 : decode cX11_next 77 = .ok (.aload_n 0, 1) := by decide +kernel
theorem dX11_next_78 : decode cX11_next 78 = .ok (.getfield 247, 3) := by decide +kernel
theorem dX11_next_81 : decode cX11_next 81 = .ok (.aload_n 0, 1) := by decide +kernel
theorem dX11_next_82 : decode cX11_next 82 = .ok (.getfield 253, 3) := by decide +kernel
theorem dX11_next_85 : decode cX11_next 85 = .ok (.isub, 1) := by decide +kernel
theorem dX11_next_86 : decode cX11_next 86 = .ok (.istore 6, 2) := by decide +kernel
theorem dX11_next_88 : decode cX11_next 88 = .ok (.iload 6, 2) := by decide +kernel
theorem dX11_next_90 : decode cX11_next 90 = .ok (.iload 4, 2) := by decide +kernel
theorem dX11_next_92 : decode cX11_next 92 = .ok (.if_icmp .ge 8, 3) := by decide +kernel
theorem dX11_next_95 : decode cX11_next 95 = .ok (.iload 5, 2) := by decide +kernel
theorem dX11_next_97 : decode cX11_next 97 = .ok (.goto 4, 3) := by decide +kernel
theorem dX11_next_100 : decode cX11_next 100 = .ok (.iload_n 3, 1) := by decide +kernel
theorem dX11_next_101 : decode cX11_next 101 = .ok (.istore_n 3, 1) := by decide +kernel
theorem dX11_next_102 : decode cX11_next 102 = .ok (.iload 6, 2) := by decide +kernel
theorem dX11_next_104 : decode cX11_next 104 = .ok (.iload 4, 2) := by decide +kernel
theorem dX11_next_106 : decode cX11_next 106 = .ok (.if_icmp .ge 8, 3) := by decide +kernel
theorem dX11_next_109 : decode cX11_next 109 = .ok (.iload 6, 2) := by decide +kernel
theorem dX11_next_111 : decode cX11_next 111 = .ok (.goto 5, 3) := by decide +kernel
theorem dX11_next_114 : decode cX11_next 114 = .ok (.iload 4, 2) := by decide +kernel
theorem dX11_next_116 : decode cX11_next 116 = .ok (.istore 4, 2) := by decide +kernel
theorem dX11_next_118 : decode cX11_next 118 = .ok (.iinc 5 1, 3) := by decide +kernel
theorem dX11_next_121 : decode cX11_next 121 = .ok (.goto (-92), 3) := by decide +kernel
theorem dX11_next_124 : decode cX11_next 124 = .ok (.iload_n 2, 1) := by decide +kernel
theorem dX11_next_125 : decode cX11_next 125 = .ok (.ifCond .ne 7, 3) := by decide +kernel
theorem dX11_next_128 : decode cX11_next 128 = .ok (.iload_n 3, 1) := by decide +kernel
theorem dX11_next_129 : decode cX11_next 129 = .ok (.goto 5, 3) := by decide +kernel
theorem dX11_next_132 : decode cX11_next 132 = .ok (.iload 4, 2) := by decide +kernel
theorem dX11_next_134 : decode cX11_next 134 = .ok (.ireturn, 1) := by decide +kernel
theorem dX11_notesRow_0 : decode cX11_notesRow 0 = .ok (.iconst 0, 1) := by decide +kernel
theorem dX11_notesRow_1 : decode cX11_notesRow 1 = .ok (.istore_n 3, 1) := by decide +kernel
theorem dX11_notesRow_2 : decode cX11_notesRow 2 = .ok (.iload_n 3, 1) := by decide +kernel
theorem dX11_notesRow_3 : decode cX11_notesRow 3 = .ok (.aload_n 1, 1) := by decide +kernel
theorem dX11_notesRow_4 : decode cX11_notesRow 4 = .ok (.arraylength, 1) := by decide +kernel
theorem dX11_notesRow_5 : decode cX11_notesRow 5 = .ok (.if_icmp .ge 20, 3) := by decide +kernel
theorem dX11_notesRow_8 : decode cX11_notesRow 8 = .ok (.aload_n 0, 1) := by decide +kernel
theorem dX11_notesRow_9 : decode cX11_notesRow 9 = .ok (.getfield 47, 3) := by decide +kernel
theorem dX11_notesRow_12 : decode cX11_notesRow 12 = .ok (.iload_n 2, 1) := by decide +kernel
theorem dX11_notesRow_13 : decode cX11_notesRow 13 = .ok (.iload_n 3, 1) := by decide +kernel
theorem dX11_notesRow_14 : decode cX11_notesRow 14 = .ok (.iadd, 1) := by decide +kernel
theorem dX11_notesRow_15 : decode cX11_notesRow 15 = .ok (.aload_n 1, 1) := by decide +kernel
theorem dX11_notesRow_16 : decode cX11_notesRow 16 = .ok (.iload_n 3, 1) := by decide +kernel
theorem dX11_notesRow_17 : decode cX11_notesRow 17 = .ok (.iaload, 1) := by decide +kernel
theorem dX11_notesRow_18 : decode cX11_notesRow 18 = .ok (.iastore, 1) := by decide +kernel
theorem dX11_notesRow_19 : decode cX11_notesRow 19 = .ok (.iinc 3 1, 3) := by decide +kernel
theorem dX11_notesRow_22 : decode cX11_notesRow 22 = .ok (.goto (-20), 3) := by decide +kernel
theorem dX11_notesRow_25 : decode cX11_notesRow 25 = .ok (.iload_n 2, 1) := by decide +kernel
theorem dX11_notesRow_26 : decode cX11_notesRow 26 = .ok (.aload_n 1, 1) := by decide +kernel
theorem dX11_notesRow_27 : decode cX11_notesRow 27 = .ok (.arraylength, 1) := by decide +kernel
theorem dX11_notesRow_28 : decode cX11_notesRow 28 = .ok (.iadd, 1) := by decide +kernel
theorem dX11_notesRow_29 : decode cX11_notesRow 29 = .ok (.ireturn, 1) := by decide +kernel
theorem dX11_gives_0 : decode cX11_gives 0 = .ok (.iconst 0, 1) := by decide +kernel
theorem dX11_gives_1 : decode cX11_gives 1 = .ok (.istore_n 3, 1) := by decide +kernel
theorem dX11_gives_2 : decode cX11_gives 2 = .ok (.iload_n 3, 1) := by decide +kernel
theorem dX11_gives_3 : decode cX11_gives 3 = .ok (.aload_n 2, 1) := by decide +kernel
theorem dX11_gives_4 : decode cX11_gives 4 = .ok (.arraylength, 1) := by decide +kernel
theorem dX11_gives_5 : decode cX11_gives 5 = .ok (.if_icmp .ge 20, 3) := by decide +kernel
theorem dX11_gives_8 : decode cX11_gives 8 = .ok (.aload_n 2, 1) := by decide +kernel
theorem dX11_gives_9 : decode cX11_gives 9 = .ok (.iload_n 3, 1) := by decide +kernel
theorem dX11_gives_10 : decode cX11_gives 10 = .ok (.aload_n 0, 1) := by decide +kernel
theorem dX11_gives_11 : decode cX11_gives 11 = .ok (.getfield 47, 3) := by decide +kernel
theorem dX11_gives_14 : decode cX11_gives 14 = .ok (.iload_n 1, 1) := by decide +kernel
theorem dX11_gives_15 : decode cX11_gives 15 = .ok (.iload_n 3, 1) := by decide +kernel
theorem dX11_gives_16 : decode cX11_gives 16 = .ok (.iadd, 1) := by decide +kernel
theorem dX11_gives_17 : decode cX11_gives 17 = .ok (.iaload, 1) := by decide +kernel
theorem dX11_gives_18 : decode cX11_gives 18 = .ok (.iastore, 1) := by decide +kernel
theorem dX11_gives_19 : decode cX11_gives 19 = .ok (.iinc 3 1, 3) := by decide +kernel
theorem dX11_gives_22 : decode cX11_gives 22 = .ok (.goto (-20), 3) := by decide +kernel
theorem dX11_gives_25 : decode cX11_gives 25 = .ok (.iload_n 1, 1) := by decide +kernel
theorem dX11_gives_26 : decode cX11_gives 26 = .ok (.aload_n 2, 1) := by decide +kernel
theorem dX11_gives_27 : decode cX11_gives 27 = .ok (.arraylength, 1) := by decide +kernel
theorem dX11_gives_28 : decode cX11_gives 28 = .ok (.iadd, 1) := by decide +kernel
theorem dX11_gives_29 : decode cX11_gives 29 = .ok (.ireturn, 1) := by decide +kernel
theorem dX11_image_0 : decode cX11_image 0 = .ok (.aload_n 0, 1) := by decide +kernel
theorem dX11_image_1 : decode cX11_image 1 = .ok (.getfield 47, 3) := by decide +kernel
theorem dX11_image_4 : decode cX11_image 4 = .ok (.iconst 0, 1) := by decide +kernel
theorem dX11_image_5 : decode cX11_image 5 = .ok (.aload_n 0, 1) := by decide +kernel
theorem dX11_image_6 : decode cX11_image 6 = .ok (.getfield 63, 3) := by decide +kernel
theorem dX11_image_9 : decode cX11_image 9 = .ok (.iastore, 1) := by decide +kernel
theorem dX11_image_10 : decode cX11_image 10 = .ok (.aload_n 0, 1) := by decide +kernel
theorem dX11_image_11 : decode cX11_image 11 = .ok (.getfield 47, 3) := by decide +kernel
theorem dX11_image_14 : decode cX11_image 14 = .ok (.iconst 1, 1) := by decide +kernel
theorem dX11_image_15 : decode cX11_image 15 = .ok (.aload_n 0, 1) := by decide +kernel
theorem dX11_image_16 : decode cX11_image 16 = .ok (.getfield 70, 3) := by decide +kernel
theorem dX11_image_19 : decode cX11_image 19 = .ok (.iastore, 1) := by decide +kernel
theorem dX11_image_20 : decode cX11_image 20 = .ok (.aload_n 0, 1) := by decide +kernel
theorem dX11_image_21 : decode cX11_image 21 = .ok (.getfield 47, 3) := by decide +kernel
theorem dX11_image_24 : decode cX11_image 24 = .ok (.iconst 2, 1) := by decide +kernel
theorem dX11_image_25 : decode cX11_image 25 = .ok (.aload_n 0, 1) := by decide +kernel
theorem dX11_image_26 : decode cX11_image 26 = .ok (.getfield 19, 3) := by decide +kernel
theorem dX11_image_29 : decode cX11_image 29 = .ok (.iastore, 1) := by decide +kernel
theorem dX11_image_30 : decode cX11_image 30 = .ok (.aload_n 0, 1) := by decide +kernel
theorem dX11_image_31 : decode cX11_image 31 = .ok (.getfield 47, 3) := by decide +kernel
theorem dX11_image_34 : decode cX11_image 34 = .ok (.iconst 3, 1) := by decide +kernel
theorem dX11_image_35 : decode cX11_image 35 = .ok (.aload_n 0, 1) := by decide +kernel
theorem dX11_image_36 : decode cX11_image 36 = .ok (.getfield 197, 3) := by decide +kernel
theorem dX11_image_39 : decode cX11_image 39 = .ok (.iastore, 1) := by decide +kernel
theorem dX11_image_40 : decode cX11_image 40 = .ok (.aload_n 0, 1) := by decide +kernel
theorem dX11_image_41 : decode cX11_image 41 = .ok (.getfield 47, 3) := by decide +kernel
theorem dX11_image_44 : decode cX11_image 44 = .ok (.iconst 4, 1) := by decide +kernel
theorem dX11_image_45 : decode cX11_image 45 = .ok (.aload_n 0, 1) := by decide +kernel
theorem dX11_image_46 : decode cX11_image 46 = .ok (.getfield 200, 3) := by decide +kernel
theorem dX11_image_49 : decode cX11_image 49 = .ok (.iastore, 1) := by decide +kernel
theorem dX11_image_50 : decode cX11_image 50 = .ok (.aload_n 0, 1) := by decide +kernel
theorem dX11_image_51 : decode cX11_image 51 = .ok (.aload_n 0, 1) := by decide +kernel
theorem dX11_image_52 : decode cX11_image 52 = .ok (.getfield 7, 3) := by decide +kernel
theorem dX11_image_55 : decode cX11_image 55 = .ok (.iconst 5, 1) := by decide +kernel
theorem dX11_image_56 : decode cX11_image 56 = .ok (.invokevirtual 262, 3) := by decide +kernel
theorem dX11_image_59 : decode cX11_image 59 = .ok (.istore_n 1, 1) := by decide +kernel
theorem dX11_image_60 : decode cX11_image 60 = .ok (.aload_n 0, 1) := by decide +kernel
theorem dX11_image_61 : decode cX11_image 61 = .ok (.aload_n 0, 1) := by decide +kernel
theorem dX11_image_62 : decode cX11_image 62 = .ok (.getfield 13, 3) := by decide +kernel
theorem dX11_image_65 : decode cX11_image 65 = .ok (.iload_n 1, 1) := by decide +kernel
theorem dX11_image_66 : decode cX11_image 66 = .ok (.invokevirtual 262, 3) := by decide +kernel
theorem dX11_image_69 : decode cX11_image 69 = .ok (.istore_n 1, 1) := by decide +kernel
theorem dX11_image_70 : decode cX11_image 70 = .ok (.aload_n 0, 1) := by decide +kernel
theorem dX11_image_71 : decode cX11_image 71 = .ok (.aload_n 0, 1) := by decide +kernel
theorem dX11_image_72 : decode cX11_image 72 = .ok (.getfield 16, 3) := by decide +kernel
theorem dX11_image_75 : decode cX11_image 75 = .ok (.iload_n 1, 1) := by decide +kernel
theorem dX11_image_76 : decode cX11_image 76 = .ok (.invokevirtual 262, 3) := by decide +kernel
theorem dX11_image_79 : decode cX11_image 79 = .ok (.istore_n 1, 1) := by decide +kernel
theorem dX11_image_80 : decode cX11_image 80 = .ok (.aload_n 0, 1) := by decide +kernel
theorem dX11_image_81 : decode cX11_image 81 = .ok (.aload_n 0, 1) := by decide +kernel
theorem dX11_image_82 : decode cX11_image 82 = .ok (.getfield 35, 3) := by decide +kernel
theorem dX11_image_85 : decode cX11_image 85 = .ok (.iload_n 1, 1) := by decide +kernel
theorem dX11_image_86 : decode cX11_image 86 = .ok (.invokevirtual 262, 3) := by decide +kernel
theorem dX11_image_89 : decode cX11_image 89 = .ok (.istore_n 1, 1) := by decide +kernel
theorem dX11_image_90 : decode cX11_image 90 = .ok (.aload_n 0, 1) := by decide +kernel
theorem dX11_image_91 : decode cX11_image 91 = .ok (.aload_n 0, 1) := by decide +kernel
theorem dX11_image_92 : decode cX11_image 92 = .ok (.getfield 41, 3) := by decide +kernel
theorem dX11_image_95 : decode cX11_image 95 = .ok (.iload_n 1, 1) := by decide +kernel
theorem dX11_image_96 : decode cX11_image 96 = .ok (.invokevirtual 262, 3) := by decide +kernel
theorem dX11_image_99 : decode cX11_image 99 = .ok (.istore_n 1, 1) := by decide +kernel
theorem dX11_image_100 : decode cX11_image 100 = .ok (.aload_n 0, 1) := by decide +kernel
theorem dX11_image_101 : decode cX11_image 101 = .ok (.aload_n 0, 1) := by decide +kernel
theorem dX11_image_102 : decode cX11_image 102 = .ok (.getfield 44, 3) := by decide +kernel
theorem dX11_image_105 : decode cX11_image 105 = .ok (.iload_n 1, 1) := by decide +kernel
theorem dX11_image_106 : decode cX11_image 106 = .ok (.invokevirtual 262, 3) := by decide +kernel
theorem dX11_image_109 : decode cX11_image 109 = .ok (.pop, 1) := by decide +kernel
theorem dX11_image_110 : decode cX11_image 110 = .ok (.aload_n 0, 1) := by decide +kernel
theorem dX11_image_111 : decode cX11_image 111 = .ok (.iconst 1, 1) := by decide +kernel
theorem dX11_image_112 : decode cX11_image 112 = .ok (.putfield 266, 3) := by decide +kernel
theorem dX11_image_115 : decode cX11_image 115 = .ok (.iconst 1, 1) := by decide +kernel
theorem dX11_image_116 : decode cX11_image 116 = .ok (.ireturn, 1) := by decide +kernel
theorem dX11_restore_0 : decode cX11_restore 0 = .ok (.aload_n 0, 1) := by decide +kernel
theorem dX11_restore_1 : decode cX11_restore 1 = .ok (.getfield 266, 3) := by decide +kernel
theorem dX11_restore_4 : decode cX11_restore 4 = .ok (.ifCond .ne 6, 3) := by decide +kernel
theorem dX11_restore_7 : decode cX11_restore 7 = .ok (.bipush (-4), 2) := by decide +kernel
theorem dX11_restore_9 : decode cX11_restore 9 = .ok (.ireturn, 1) := by decide +kernel
theorem dX11_restore_10 : decode cX11_restore 10 = .ok (.aload_n 0, 1) := by decide +kernel
theorem dX11_restore_11 : decode cX11_restore 11 = .ok (.aload_n 0, 1) := by decide +kernel
theorem dX11_restore_12 : decode cX11_restore 12 = .ok (.getfield 47, 3) := by decide +kernel
theorem dX11_restore_15 : decode cX11_restore 15 = .ok (.iconst 0, 1) := by decide +kernel
theorem dX11_restore_16 : decode cX11_restore 16 = .ok (.iaload, 1) := by decide +kernel
theorem dX11_restore_17 : decode cX11_restore 17 = .ok (.putfield 63, 3) := by decide +kernel
theorem dX11_restore_20 : decode cX11_restore 20 = .ok (.aload_n 0, 1) := by decide +kernel
theorem dX11_restore_21 : decode cX11_restore 21 = .ok (.aload_n 0, 1) := by decide +kernel
theorem dX11_restore_22 : decode cX11_restore 22 = .ok (.getfield 47, 3) := by decide +kernel
theorem dX11_restore_25 : decode cX11_restore 25 = .ok (.iconst 1, 1) := by decide +kernel
theorem dX11_restore_26 : decode cX11_restore 26 = .ok (.iaload, 1) := by decide +kernel
theorem dX11_restore_27 : decode cX11_restore 27 = .ok (.putfield 70, 3) := by decide +kernel
theorem dX11_restore_30 : decode cX11_restore 30 = .ok (.aload_n 0, 1) := by decide +kernel
theorem dX11_restore_31 : decode cX11_restore 31 = .ok (.aload_n 0, 1) := by decide +kernel
theorem dX11_restore_32 : decode cX11_restore 32 = .ok (.getfield 47, 3) := by decide +kernel
theorem dX11_restore_35 : decode cX11_restore 35 = .ok (.iconst 2, 1) := by decide +kernel
theorem dX11_restore_36 : decode cX11_restore 36 = .ok (.iaload, 1) := by decide +kernel
theorem dX11_restore_37 : decode cX11_restore 37 = .ok (.putfield 19, 3) := by decide +kernel
theorem dX11_restore_40 : decode cX11_restore 40 = .ok (.aload_n 0, 1) := by decide +kernel
theorem dX11_restore_41 : decode cX11_restore 41 = .ok (.aload_n 0, 1) := by decide +kernel
theorem dX11_restore_42 : decode cX11_restore 42 = .ok (.getfield 47, 3) := by decide +kernel
theorem dX11_restore_45 : decode cX11_restore 45 = .ok (.iconst 3, 1) := by decide +kernel
theorem dX11_restore_46 : decode cX11_restore 46 = .ok (.iaload, 1) := by decide +kernel
theorem dX11_restore_47 : decode cX11_restore 47 = .ok (.putfield 197, 3) := by decide +kernel
theorem dX11_restore_50 : decode cX11_restore 50 = .ok (.aload_n 0, 1) := by decide +kernel
theorem dX11_restore_51 : decode cX11_restore 51 = .ok (.aload_n 0, 1) := by decide +kernel
theorem dX11_restore_52 : decode cX11_restore 52 = .ok (.getfield 47, 3) := by decide +kernel
theorem dX11_restore_55 : decode cX11_restore 55 = .ok (.iconst 4, 1) := by decide +kernel
theorem dX11_restore_56 : decode cX11_restore 56 = .ok (.iaload, 1) := by decide +kernel
theorem dX11_restore_57 : decode cX11_restore 57 = .ok (.putfield 200, 3) := by decide +kernel
theorem dX11_restore_60 : decode cX11_restore 60 = .ok (.aload_n 0, 1) := by decide +kernel
theorem dX11_restore_61 : decode cX11_restore 61 = .ok (.iconst 5, 1) := by decide +kernel
theorem dX11_restore_62 : decode cX11_restore 62 = .ok (.aload_n 0, 1) := by decide +kernel
theorem dX11_restore_63 : decode cX11_restore 63 = .ok (.getfield 7, 3) := by decide +kernel
theorem dX11_restore_66 : decode cX11_restore 66 = .ok (.invokevirtual 269, 3) := by decide +kernel
theorem dX11_restore_69 : decode cX11_restore 69 = .ok (.istore_n 1, 1) := by decide +kernel
theorem dX11_restore_70 : decode cX11_restore 70 = .ok (.aload_n 0, 1) := by decide +kernel
theorem dX11_restore_71 : decode cX11_restore 71 = .ok (.iload_n 1, 1) := by decide +kernel
theorem dX11_restore_72 : decode cX11_restore 72 = .ok (.aload_n 0, 1) := by decide +kernel
theorem dX11_restore_73 : decode cX11_restore 73 = .ok (.getfield 13, 3) := by decide +kernel
theorem dX11_restore_76 : decode cX11_restore 76 = .ok (.invokevirtual 269, 3) := by decide +kernel
theorem dX11_restore_79 : decode cX11_restore 79 = .ok (.istore_n 1, 1) := by decide +kernel
theorem dX11_restore_80 : decode cX11_restore 80 = .ok (.aload_n 0, 1) := by decide +kernel
theorem dX11_restore_81 : decode cX11_restore 81 = .ok (.iload_n 1, 1) := by decide +kernel
theorem dX11_restore_82 : decode cX11_restore 82 = .ok (.aload_n 0, 1) := by decide +kernel
theorem dX11_restore_83 : decode cX11_restore 83 = .ok (.getfield 16, 3) := by decide +kernel
theorem dX11_restore_86 : decode cX11_restore 86 = .ok (.invokevirtual 269, 3) := by decide +kernel
theorem dX11_restore_89 : decode cX11_restore 89 = .ok (.istore_n 1, 1) := by decide +kernel
theorem dX11_restore_90 : decode cX11_restore 90 = .ok (.aload_n 0, 1) := by decide +kernel
theorem dX11_restore_91 : decode cX11_restore 91 = .ok (.iload_n 1, 1) := by decide +kernel
theorem dX11_restore_92 : decode cX11_restore 92 = .ok (.aload_n 0, 1) := by decide +kernel
theorem dX11_restore_93 : decode cX11_restore 93 = .ok (.getfield 35, 3) := by decide +kernel
theorem dX11_restore_96 : decode cX11_restore 96 = .ok (.invokevirtual 269, 3) := by decide +kernel
theorem dX11_restore_99 : decode cX11_restore 99 = .ok (.istore_n 1, 1) := by decide +kernel
theorem dX11_restore_100 : decode cX11_restore 100 = .ok (.aload_n 0, 1) := by decide +kernel
theorem dX11_restore_101 : decode cX11_restore 101 = .ok (.iload_n 1, 1) := by decide +kernel
theorem dX11_restore_102 : decode cX11_restore 102 = .ok (.aload_n 0, 1) := by decide +kernel
theorem dX11_restore_103 : decode cX11_restore 103 = .ok (.getfield 41, 3) := by decide +kernel
theorem dX11_restore_106 : decode cX11_restore 106 = .ok (.invokevirtual 269, 3) := by decide +kernel
theorem dX11_restore_109 : decode cX11_restore 109 = .ok (.istore_n 1, 1) := by decide +kernel
theorem dX11_restore_110 : decode cX11_restore 110 = .ok (.aload_n 0, 1) := by decide +kernel
theorem dX11_restore_111 : decode cX11_restore 111 = .ok (.iload_n 1, 1) := by decide +kernel
theorem dX11_restore_112 : decode cX11_restore 112 = .ok (.aload_n 0, 1) := by decide +kernel
theorem dX11_restore_113 : decode cX11_restore 113 = .ok (.getfield 44, 3) := by decide +kernel
theorem dX11_restore_116 : decode cX11_restore 116 = .ok (.invokevirtual 269, 3) := by decide +kernel
theorem dX11_restore_119 : decode cX11_restore 119 = .ok (.pop, 1) := by decide +kernel
theorem dX11_restore_120 : decode cX11_restore 120 = .ok (.iconst 1, 1) := by decide +kernel
theorem dX11_restore_121 : decode cX11_restore 121 = .ok (.ireturn, 1) := by decide +kernel
theorem dX11_isSheet_0 : decode cX11_isSheet 0 = .ok (.iload_n 0, 1) := by decide +kernel
theorem dX11_isSheet_1 : decode cX11_isSheet 1 = .ok (.i2l, 1) := by decide +kernel
theorem dX11_isSheet_2 : decode cX11_isSheet 2 = .ok (.lconst 0, 1) := by decide +kernel
theorem dX11_isSheet_3 : decode cX11_isSheet 3 = .ok (.ldc2_w 75, 3) := by decide +kernel
theorem dX11_isSheet_6 : decode cX11_isSheet 6 = .ok (.invokestatic 66, 3) := by decide +kernel
theorem dX11_isSheet_9 : decode cX11_isSheet 9 = .ok (.ireturn, 1) := by decide +kernel
theorem dX11_isLane_0 : decode cX11_isLane 0 = .ok (.iload_n 0, 1) := by decide +kernel
theorem dX11_isLane_1 : decode cX11_isLane 1 = .ok (.i2l, 1) := by decide +kernel
theorem dX11_isLane_2 : decode cX11_isLane 2 = .ok (.lconst 0, 1) := by decide +kernel
theorem dX11_isLane_3 : decode cX11_isLane 3 = .ok (.ldc2_w 75, 3) := by decide +kernel
theorem dX11_isLane_6 : decode cX11_isLane 6 = .ok (.invokestatic 66, 3) := by decide +kernel
theorem dX11_isLane_9 : decode cX11_isLane 9 = .ok (.ireturn, 1) := by decide +kernel
theorem dX11_why_0 : decode cX11_why 0 = .ok (.aload_n 0, 1) := by decide +kernel
theorem dX11_why_1 : decode cX11_why 1 = .ok (.getfield 50, 3) := by decide +kernel
theorem dX11_why_4 : decode cX11_why 4 = .ok (.iload_n 1, 1) := by decide +kernel
theorem dX11_why_5 : decode cX11_why 5 = .ok (.iaload, 1) := by decide +kernel
theorem dX11_why_6 : decode cX11_why 6 = .ok (.ifCond .ge 6, 3) := by decide +kernel
theorem dX11_why_9 : decode cX11_why 9 = .ok (.bipush (-11), 2) := by decide +kernel
theorem dX11_why_11 : decode cX11_why 11 = .ok (.ireturn, 1) := by decide +kernel
theorem dX11_why_12 : decode cX11_why 12 = .ok (.aload_n 0, 1) := by decide +kernel
theorem dX11_why_13 : decode cX11_why 13 = .ok (.getfield 50, 3) := by decide +kernel
theorem dX11_why_16 : decode cX11_why 16 = .ok (.iload_n 1, 1) := by decide +kernel
theorem dX11_why_17 : decode cX11_why 17 = .ok (.iaload, 1) := by decide +kernel
theorem dX11_why_18 : decode cX11_why 18 = .ok (.iload_n 2, 1) := by decide +kernel
theorem dX11_why_19 : decode cX11_why 19 = .ok (.if_icmp .eq 6, 3) := by decide +kernel
theorem dX11_why_22 : decode cX11_why 22 = .ok (.bipush (-12), 2) := by decide +kernel
theorem dX11_why_24 : decode cX11_why 24 = .ok (.ireturn, 1) := by decide +kernel
theorem dX11_why_25 : decode cX11_why 25 = .ok (.iload_n 3, 1) := by decide +kernel
theorem dX11_why_26 : decode cX11_why 26 = .ok (.ifCond .lt 20, 3) := by decide +kernel
theorem dX11_why_29 : decode cX11_why 29 = .ok (.iload_n 3, 1) := by decide +kernel
theorem dX11_why_30 : decode cX11_why 30 = .ok (.i2l, 1) := by decide +kernel
theorem dX11_why_31 : decode cX11_why 31 = .ok (.iload 4, 2) := by decide +kernel
theorem dX11_why_33 : decode cX11_why 33 = .ok (.i2l, 1) := by decide +kernel
theorem dX11_why_34 : decode cX11_why 34 = .ok (.ladd, 1) := by decide +kernel
theorem dX11_why_35 : decode cX11_why 35 = .ok (.aload_n 0, 1) := by decide +kernel
theorem dX11_why_36 : decode cX11_why 36 = .ok (.getfield 53, 3) := by decide +kernel
theorem dX11_why_39 : decode cX11_why 39 = .ok (.iload_n 1, 1) := by decide +kernel
theorem dX11_why_40 : decode cX11_why 40 = .ok (.iaload, 1) := by decide +kernel
theorem dX11_why_41 : decode cX11_why 41 = .ok (.i2l, 1) := by decide +kernel
theorem dX11_why_42 : decode cX11_why 42 = .ok (.lcmp, 1) := by decide +kernel
theorem dX11_why_43 : decode cX11_why 43 = .ok (.ifCond .le 8, 3) := by decide +kernel
theorem dX11_why_46 : decode cX11_why 46 = .ok (.bipush (-13), 2) := by decide +kernel
theorem dX11_why_48 : decode cX11_why 48 = .ok (.goto 4, 3) := by decide +kernel
theorem dX11_why_51 : decode cX11_why 51 = .ok (.iconst 0, 1) := by decide +kernel
theorem dX11_why_52 : decode cX11_why 52 = .ok (.ireturn, 1) := by decide +kernel
theorem dX11_judged_0 : decode cX11_judged 0 = .ok (.aload_n 0, 1) := by decide +kernel
theorem dX11_judged_1 : decode cX11_judged 1 = .ok (.iload_n 1, 1) := by decide +kernel
theorem dX11_judged_2 : decode cX11_judged 2 = .ok (.invokevirtual 105, 3) := by decide +kernel
theorem dX11_judged_5 : decode cX11_judged 5 = .ok (.ifCond .eq 38, 3) := by decide +kernel
theorem dX11_judged_8 : decode cX11_judged 8 = .ok (.iload_n 2, 1) := by decide +kernel
theorem dX11_judged_9 : decode cX11_judged 9 = .ok (.invokestatic 222, 3) := by decide +kernel
theorem dX11_judged_12 : decode cX11_judged 12 = .ok (.ifCond .eq 31, 3) := by decide +kernel
theorem dX11_judged_15 : decode cX11_judged 15 = .ok (.iload_n 3, 1) := by decide +kernel
theorem dX11_judged_16 : decode cX11_judged 16 = .ok (.invokestatic 273, 3) := by decide +kernel
theorem dX11_judged_19 : decode cX11_judged 19 = .ok (.ifCond .eq 24, 3) := by decide +kernel
theorem dX11_judged_22 : decode cX11_judged 22 = .ok (.iload 4, 2) := by decide +kernel
theorem dX11_judged_24 : decode cX11_judged 24 = .ok (.invokestatic 276, 3) := by decide +kernel
theorem dX11_judged_27 : decode cX11_judged 27 = .ok (.ifCond .eq 16, 3) := by decide +kernel
theorem dX11_judged_30 : decode cX11_judged 30 = .ok (.iload 6, 2) := by decide +kernel
theorem dX11_judged_32 : decode cX11_judged 32 = .ok (.i2l, 1) := by decide +kernel
theorem dX11_judged_33 : decode cX11_judged 33 = .ok (.lconst 0, 1) := by decide +kernel
theorem dX11_judged_34 : decode cX11_judged 34 = .ok (.ldc2_w 79, 3) := by decide +kernel
theorem dX11_judged_37 : decode cX11_judged 37 = .ok (.invokestatic 66, 3) := by decide +kernel
theorem dX11_judged_40 : decode cX11_judged 40 = .ok (.ifCond .ne 5, 3) := by decide +kernel
theorem dX11_judged_43 : decode cX11_judged 43 = .ok (.iconst (-1), 1) := by decide +kernel
theorem dX11_judged_44 : decode cX11_judged 44 = .ok (.ireturn, 1) := by decide +kernel
theorem dX11_judged_45 : decode cX11_judged 45 = .ok (.aload_n 0, 1) := by decide +kernel
theorem dX11_judged_46 : decode cX11_judged 46 = .ok (.iload_n 3, 1) := by decide +kernel
theorem dX11_judged_47 : decode cX11_judged 47 = .ok (.iload 4, 2) := by decide +kernel
theorem dX11_judged_49 : decode cX11_judged 49 = .ok (.iload 5, 2) := by decide +kernel
theorem dX11_judged_51 : decode cX11_judged 51 = .ok (.aload_n 0, 1) := by decide +kernel
theorem dX11_judged_52 : decode cX11_judged 52 = .ok (.getfield 63, 3) := by decide +kernel
theorem dX11_judged_55 : decode cX11_judged 55 = .ok (.invokevirtual 279, 3) := by decide +kernel
theorem dX11_judged_58 : decode cX11_judged 58 = .ok (.istore 7, 2) := by decide +kernel
theorem dX11_judged_60 : decode cX11_judged 60 = .ok (.iload 7, 2) := by decide +kernel
theorem dX11_judged_62 : decode cX11_judged 62 = .ok (.ifCond .ge 6, 3) := by decide +kernel
theorem dX11_judged_65 : decode cX11_judged 65 = .ok (.iload 7, 2) := by decide +kernel
theorem dX11_judged_67 : decode cX11_judged 67 = .ok (.ireturn, 1) := by decide +kernel
theorem dX11_judged_68 : decode cX11_judged 68 = .ok (.iconst 0, 1) := by decide +kernel
theorem dX11_judged_69 : decode cX11_judged 69 = .ok (.istore 8, 2) := by decide +kernel
theorem dX11_judged_71 : decode cX11_judged 71 = .ok (.iload 8, 2) := by decide +kernel
theorem dX11_judged_73 : decode cX11_judged 73 = .ok (.aload_n 0, 1) := by decide +kernel
theorem dX11_judged_74 : decode cX11_judged 74 = .ok (.getfield 63, 3) := by decide +kernel
theorem dX11_judged_77 : decode cX11_judged 77 = .ok (.if_icmp .ge 59, 3) := by decide +kernel
theorem dX11_judged_80 : decode cX11_judged 80 = .ok (.aload_n 0, 1) := by decide +kernel
theorem dX11_judged_81 : decode cX11_judged 81 = .ok (.getfield 56, 3) := by decide +kernel
theorem dX11_judged_84 : decode cX11_judged 84 = .ok (.bipush 16, 2) := by decide +kernel
theorem dX11_judged_86 : decode cX11_judged 86 = .ok (.iload_n 3, 1) := by decide +kernel
theorem dX11_judged_87 : decode cX11_judged 87 = .ok (.imul, 1) := by decide +kernel
theorem dX11_judged_88 : decode cX11_judged 88 = .ok (.iload 5, 2) := by decide +kernel
theorem dX11_judged_90 : decode cX11_judged 90 = .ok (.iadd, 1) := by decide +kernel
theorem dX11_judged_91 : decode cX11_judged 91 = .ok (.iload 8, 2) := by decide +kernel
theorem dX11_judged_93 : decode cX11_judged 93 = .ok (.iadd, 1) := by decide +kernel
theorem dX11_judged_94 : decode cX11_judged 94 = .ok (.laload, 1) := by decide +kernel
theorem dX11_judged_95 : decode cX11_judged 95 = .ok (.lstore 9, 2) := by decide +kernel
theorem dX11_judged_97 : decode cX11_judged 97 = .ok (.lload 9, 2) := by decide +kernel
theorem dX11_judged_99 : decode cX11_judged 99 = .ok (.aload_n 0, 1) := by decide +kernel
theorem dX11_judged_100 : decode cX11_judged 100 = .ok (.iload_n 1, 1) := by decide +kernel
theorem dX11_judged_101 : decode cX11_judged 101 = .ok (.invokevirtual 108, 3) := by decide +kernel
theorem dX11_judged_104 : decode cX11_judged 104 = .ok (.i2l, 1) := by decide +kernel
theorem dX11_judged_105 : decode cX11_judged 105 = .ok (.aload_n 0, 1) := by decide +kernel
theorem dX11_judged_106 : decode cX11_judged 106 = .ok (.iload_n 1, 1) := by decide +kernel
theorem dX11_judged_107 : decode cX11_judged 107 = .ok (.invokevirtual 101, 3) := by decide +kernel
theorem dX11_judged_110 : decode cX11_judged 110 = .ok (.i2l, 1) := by decide +kernel
theorem dX11_judged_111 : decode cX11_judged 111 = .ok (.invokestatic 66, 3) := by decide +kernel
theorem dX11_judged_114 : decode cX11_judged 114 = .ok (.ifCond .ne 6, 3) := by decide +kernel
theorem dX11_judged_117 : decode cX11_judged 117 = .ok (.bipush (-2), 2) := by decide +kernel
theorem dX11_judged_119 : decode cX11_judged 119 = .ok (.ireturn, 1) := by decide +kernel
theorem dX11_judged_120 : decode cX11_judged 120 = .ok (.aload_n 0, 1) := by decide +kernel
theorem dX11_judged_121 : decode cX11_judged 121 = .ok (.getfield 23, 3) := by decide +kernel
theorem dX11_judged_124 : decode cX11_judged 124 = .ok (.iload 8, 2) := by decide +kernel
theorem dX11_judged_126 : decode cX11_judged 126 = .ok (.lload 9, 2) := by decide +kernel
theorem dX11_judged_128 : decode cX11_judged 128 = .ok (.l2i, 1) := by decide +kernel
theorem dX11_judged_129 : decode cX11_judged 129 = .ok (.iastore, 1) := by decide +kernel
theorem dX11_judged_130 : decode cX11_judged 130 = .ok (.iinc 8 1, 3) := by decide +kernel
theorem dX11_judged_133 : decode cX11_judged 133 = .ok (.goto (-62), 3) := by decide +kernel
theorem dX11_judged_136 : decode cX11_judged 136 = .ok (.aload_n 0, 1) := by decide +kernel
theorem dX11_judged_137 : decode cX11_judged 137 = .ok (.iload_n 1, 1) := by decide +kernel
theorem dX11_judged_138 : decode cX11_judged 138 = .ok (.iload_n 2, 1) := by decide +kernel
theorem dX11_judged_139 : decode cX11_judged 139 = .ok (.invokevirtual 142, 3) := by decide +kernel
theorem dX11_judged_142 : decode cX11_judged 142 = .ok (.iload 6, 2) := by decide +kernel
theorem dX11_judged_144 : decode cX11_judged 144 = .ok (.ifCond .ne 10, 3) := by decide +kernel
theorem dX11_judged_147 : decode cX11_judged 147 = .ok (.aload_n 0, 1) := by decide +kernel
theorem dX11_judged_148 : decode cX11_judged 148 = .ok (.getfield 133, 3) := by decide +kernel
theorem dX11_judged_151 : decode cX11_judged 151 = .ok (.goto 20, 3) := by decide +kernel
theorem dX11_judged_154 : decode cX11_judged 154 = .ok (.iload 6, 2) := by decide +kernel
theorem dX11_judged_156 : decode cX11_judged 156 = .ok (.iconst 1, 1) := by decide +kernel
theorem dX11_judged_157 : decode cX11_judged 157 = .ok (.if_icmp .ne 10, 3) := by decide +kernel
theorem dX11_judged_160 : decode cX11_judged 160 = .ok (.aload_n 0, 1) := by decide +kernel
theorem dX11_judged_161 : decode cX11_judged 161 = .ok (.getfield 136, 3) := by decide +kernel
theorem dX11_judged_164 : decode cX11_judged 164 = .ok (.goto 7, 3) := by decide +kernel
theorem dX11_judged_167 : decode cX11_judged 167 = .ok (.aload_n 0, 1) := by decide +kernel
theorem dX11_judged_168 : decode cX11_judged 168 = .ok (.getfield 130, 3) := by decide +kernel
theorem dX11_judged_171 : decode cX11_judged 171 = .ok (.ireturn, 1) := by decide +kernel
theorem dX11_puts_0 : decode cX11_puts 0 = .ok (.aload_n 0, 1) := by decide +kernel
theorem dX11_puts_1 : decode cX11_puts 1 = .ok (.getfield 50, 3) := by decide +kernel
theorem dX11_puts_4 : decode cX11_puts 4 = .ok (.iload_n 1, 1) := by decide +kernel
theorem dX11_puts_5 : decode cX11_puts 5 = .ok (.iaload, 1) := by decide +kernel
theorem dX11_puts_6 : decode cX11_puts 6 = .ok (.istore 5, 2) := by decide +kernel
theorem dX11_puts_8 : decode cX11_puts 8 = .ok (.aload_n 0, 1) := by decide +kernel
theorem dX11_puts_9 : decode cX11_puts 9 = .ok (.getfield 56, 3) := by decide +kernel
theorem dX11_puts_12 : decode cX11_puts 12 = .ok (.bipush 16, 2) := by decide +kernel
theorem dX11_puts_14 : decode cX11_puts 14 = .ok (.iload_n 1, 1) := by decide +kernel
theorem dX11_puts_15 : decode cX11_puts 15 = .ok (.imul, 1) := by decide +kernel
theorem dX11_puts_16 : decode cX11_puts 16 = .ok (.iload_n 2, 1) := by decide +kernel
theorem dX11_puts_17 : decode cX11_puts 17 = .ok (.iadd, 1) := by decide +kernel
theorem dX11_puts_18 : decode cX11_puts 18 = .ok (.iload 5, 2) := by decide +kernel
theorem dX11_puts_20 : decode cX11_puts 20 = .ok (.ifCond .ne 10, 3) := by decide +kernel
theorem dX11_puts_23 : decode cX11_puts 23 = .ok (.lload_n 3, 1) := by decide +kernel
theorem dX11_puts_24 : decode cX11_puts 24 = .ok (.l2i, 1) := by decide +kernel
theorem dX11_puts_25 : decode cX11_puts 25 = .ok (.i2b, 1) := by decide +kernel
theorem dX11_puts_26 : decode cX11_puts 26 = .ok (.i2l, 1) := by decide +kernel
theorem dX11_puts_27 : decode cX11_puts 27 = .ok (.goto 29, 3) := by decide +kernel
theorem dX11_puts_30 : decode cX11_puts 30 = .ok (.iload 5, 2) := by decide +kernel
theorem dX11_puts_32 : decode cX11_puts 32 = .ok (.iconst 1, 1) := by decide +kernel
theorem dX11_puts_33 : decode cX11_puts 33 = .ok (.if_icmp .ne 10, 3) := by decide +kernel
theorem dX11_puts_36 : decode cX11_puts 36 = .ok (.lload_n 3, 1) := by decide +kernel
theorem dX11_puts_37 : decode cX11_puts 37 = .ok (.l2i, 1) := by decide +kernel
theorem dX11_puts_38 : decode cX11_puts 38 = .ok (.i2s, 1) := by decide +kernel
theorem dX11_puts_39 : decode cX11_puts 39 = .ok (.i2l, 1) := by decide +kernel
theorem dX11_puts_40 : decode cX11_puts 40 = .ok (.goto 16, 3) := by decide +kernel
theorem dX11_puts_43 : decode cX11_puts 43 = .ok (.iload 5, 2) := by decide +kernel
theorem dX11_puts_45 : decode cX11_puts 45 = .ok (.iconst 2, 1) := by decide +kernel
theorem dX11_puts_46 : decode cX11_puts 46 = .ok (.if_icmp .ne 9, 3) := by decide +kernel
theorem dX11_puts_49 : decode cX11_puts 49 = .ok (.lload_n 3, 1) := by decide +kernel
theorem dX11_puts_50 : decode cX11_puts 50 = .ok (.l2i, 1) := by decide +kernel
theorem dX11_puts_51 : decode cX11_puts 51 = .ok (.i2l, 1) := by decide +kernel
theorem dX11_puts_52 : decode cX11_puts 52 = .ok (.goto 4, 3) := by decide +kernel
theorem dX11_puts_55 : decode cX11_puts 55 = .ok (.lload_n 3, 1) := by decide +kernel
theorem dX11_puts_56 : decode cX11_puts 56 = .ok (.lastore, 1) := by decide +kernel
theorem dX11_puts_57 : decode cX11_puts 57 = .ok (.return_, 1) := by decide +kernel
theorem dX11_film_0 : decode cX11_film 0 = .ok (.iload_n 1, 1) := by decide +kernel
theorem dX11_film_1 : decode cX11_film 1 = .ok (.i2l, 1) := by decide +kernel
theorem dX11_film_2 : decode cX11_film 2 = .ok (.lconst 0, 1) := by decide +kernel
theorem dX11_film_3 : decode cX11_film 3 = .ok (.ldc2_w 118, 3) := by decide +kernel
theorem dX11_film_6 : decode cX11_film 6 = .ok (.invokestatic 66, 3) := by decide +kernel
theorem dX11_film_9 : decode cX11_film 9 = .ok (.ifCond .eq 17, 3) := by decide +kernel
theorem dX11_film_12 : decode cX11_film 12 = .ok (.iload_n 2, 1) := by decide +kernel
theorem dX11_film_13 : decode cX11_film 13 = .ok (.invokestatic 273, 3) := by decide +kernel
theorem dX11_film_16 : decode cX11_film 16 = .ok (.ifCond .eq 10, 3) := by decide +kernel
theorem dX11_film_19 : decode cX11_film 19 = .ok (.iload_n 3, 1) := by decide +kernel
theorem dX11_film_20 : decode cX11_film 20 = .ok (.invokestatic 276, 3) := by decide +kernel
theorem dX11_film_23 : decode cX11_film 23 = .ok (.ifCond .ne 5, 3) := by decide +kernel
theorem dX11_film_26 : decode cX11_film 26 = .ok (.iconst (-1), 1) := by decide +kernel
theorem dX11_film_27 : decode cX11_film 27 = .ok (.ireturn, 1) := by decide +kernel
theorem dX11_film_28 : decode cX11_film 28 = .ok (.aload_n 0, 1) := by decide +kernel
theorem dX11_film_29 : decode cX11_film 29 = .ok (.iload_n 2, 1) := by decide +kernel
theorem dX11_film_30 : decode cX11_film 30 = .ok (.iload_n 3, 1) := by decide +kernel
theorem dX11_film_31 : decode cX11_film 31 = .ok (.iload 4, 2) := by decide +kernel
theorem dX11_film_33 : decode cX11_film 33 = .ok (.aload_n 0, 1) := by decide +kernel
theorem dX11_film_34 : decode cX11_film 34 = .ok (.getfield 63, 3) := by decide +kernel
theorem dX11_film_37 : decode cX11_film 37 = .ok (.invokevirtual 279, 3) := by decide +kernel
theorem dX11_film_40 : decode cX11_film 40 = .ok (.istore 5, 2) := by decide +kernel
theorem dX11_film_42 : decode cX11_film 42 = .ok (.iload 5, 2) := by decide +kernel
theorem dX11_film_44 : decode cX11_film 44 = .ok (.ifCond .ge 6, 3) := by decide +kernel
theorem dX11_film_47 : decode cX11_film 47 = .ok (.iload 5, 2) := by decide +kernel
theorem dX11_film_49 : decode cX11_film 49 = .ok (.ireturn, 1) := by decide +kernel
theorem dX11_film_50 : decode cX11_film 50 = .ok (.iconst 0, 1) := by decide +kernel
theorem dX11_film_51 : decode cX11_film 51 = .ok (.istore 6, 2) := by decide +kernel
theorem dX11_film_53 : decode cX11_film 53 = .ok (.iload 6, 2) := by decide +kernel
theorem dX11_film_55 : decode cX11_film 55 = .ok (.aload_n 0, 1) := by decide +kernel
theorem dX11_film_56 : decode cX11_film 56 = .ok (.getfield 63, 3) := by decide +kernel
theorem dX11_film_59 : decode cX11_film 59 = .ok (.if_icmp .ge 27, 3) := by decide +kernel
theorem dX11_film_62 : decode cX11_film 62 = .ok (.aload_n 0, 1) := by decide +kernel
theorem dX11_film_63 : decode cX11_film 63 = .ok (.iload_n 2, 1) := by decide +kernel
theorem dX11_film_64 : decode cX11_film 64 = .ok (.iload 4, 2) := by decide +kernel
theorem dX11_film_66 : decode cX11_film 66 = .ok (.iload 6, 2) := by decide +kernel
theorem dX11_film_68 : decode cX11_film 68 = .ok (.iadd, 1) := by decide +kernel
theorem dX11_film_69 : decode cX11_film 69 = .ok (.aload_n 0, 1) := by decide +kernel
theorem dX11_film_70 : decode cX11_film 70 = .ok (.iload 6, 2) := by decide +kernel
theorem dX11_film_72 : decode cX11_film 72 = .ok (.iload_n 1, 1) := by decide +kernel
theorem dX11_film_73 : decode cX11_film 73 = .ok (.invokevirtual 282, 3) := by decide +kernel
theorem dX11_film_76 : decode cX11_film 76 = .ok (.i2l, 1) := by decide +kernel
theorem dX11_film_77 : decode cX11_film 77 = .ok (.invokevirtual 285, 3) := by decide +kernel
theorem dX11_film_80 : decode cX11_film 80 = .ok (.iinc 6 1, 3) := by decide +kernel
theorem dX11_film_83 : decode cX11_film 83 = .ok (.goto (-30), 3) := by decide +kernel
theorem dX11_film_86 : decode cX11_film 86 = .ok (.aload_n 0, 1) := by decide +kernel
theorem dX11_film_87 : decode cX11_film 87 = .ok (.getfield 63, 3) := by decide +kernel
theorem dX11_film_90 : decode cX11_film 90 = .ok (.ireturn, 1) := by decide +kernel
theorem dX11_sheet_0 : decode cX11_sheet 0 = .ok (.iload_n 1, 1) := by decide +kernel
theorem dX11_sheet_1 : decode cX11_sheet 1 = .ok (.invokestatic 273, 3) := by decide +kernel
theorem dX11_sheet_4 : decode cX11_sheet 4 = .ok (.ifCond .eq 16, 3) := by decide +kernel
theorem dX11_sheet_7 : decode cX11_sheet 7 = .ok (.iload_n 2, 1) := by decide +kernel
theorem dX11_sheet_8 : decode cX11_sheet 8 = .ok (.invokestatic 276, 3) := by decide +kernel
theorem dX11_sheet_11 : decode cX11_sheet 11 = .ok (.ifCond .eq 9, 3) := by decide +kernel
theorem dX11_sheet_14 : decode cX11_sheet 14 = .ok (.iload_n 3, 1) := by decide +kernel
theorem dX11_sheet_15 : decode cX11_sheet 15 = .ok (.bipush 16, 2) := by decide +kernel
theorem dX11_sheet_17 : decode cX11_sheet 17 = .ok (.if_icmp .le 5, 3) := by decide +kernel
theorem dX11_sheet_20 : decode cX11_sheet 20 = .ok (.iconst (-1), 1) := by decide +kernel
theorem dX11_sheet_21 : decode cX11_sheet 21 = .ok (.ireturn, 1) := by decide +kernel
theorem dX11_sheet_22 : decode cX11_sheet 22 = .ok (.iload_n 3, 1) := by decide +kernel
theorem dX11_sheet_23 : decode cX11_sheet 23 = .ok (.ifCond .ge 6, 3) := by decide +kernel
theorem dX11_sheet_26 : decode cX11_sheet 26 = .ok (.bipush (-14), 2) := by decide +kernel
theorem dX11_sheet_28 : decode cX11_sheet 28 = .ok (.ireturn, 1) := by decide +kernel
theorem dX11_sheet_29 : decode cX11_sheet 29 = .ok (.aload_n 0, 1) := by decide +kernel
theorem dX11_sheet_30 : decode cX11_sheet 30 = .ok (.getfield 50, 3) := by decide +kernel
theorem dX11_sheet_33 : decode cX11_sheet 33 = .ok (.iload_n 1, 1) := by decide +kernel
theorem dX11_sheet_34 : decode cX11_sheet 34 = .ok (.iload_n 2, 1) := by decide +kernel
theorem dX11_sheet_35 : decode cX11_sheet 35 = .ok (.iastore, 1) := by decide +kernel
theorem dX11_sheet_36 : decode cX11_sheet 36 = .ok (.aload_n 0, 1) := by decide +kernel
theorem dX11_sheet_37 : decode cX11_sheet 37 = .ok (.getfield 53, 3) := by decide +kernel
theorem dX11_sheet_40 : decode cX11_sheet 40 = .ok (.iload_n 1, 1) := by decide +kernel
theorem dX11_sheet_41 : decode cX11_sheet 41 = .ok (.iload_n 3, 1) := by decide +kernel
theorem dX11_sheet_42 : decode cX11_sheet 42 = .ok (.iastore, 1) := by decide +kernel
theorem dX11_sheet_43 : decode cX11_sheet 43 = .ok (.iconst 0, 1) := by decide +kernel
theorem dX11_sheet_44 : decode cX11_sheet 44 = .ok (.istore 4, 2) := by decide +kernel
theorem dX11_sheet_46 : decode cX11_sheet 46 = .ok (.iload 4, 2) := by decide +kernel
theorem dX11_sheet_48 : decode cX11_sheet 48 = .ok (.bipush 16, 2) := by decide +kernel
theorem dX11_sheet_50 : decode cX11_sheet 50 = .ok (.if_icmp .ge 22, 3) := by decide +kernel
theorem dX11_sheet_53 : decode cX11_sheet 53 = .ok (.aload_n 0, 1) := by decide +kernel
theorem dX11_sheet_54 : decode cX11_sheet 54 = .ok (.getfield 56, 3) := by decide +kernel
theorem dX11_sheet_57 : decode cX11_sheet 57 = .ok (.bipush 16, 2) := by decide +kernel
theorem dX11_sheet_59 : decode cX11_sheet 59 = .ok (.iload_n 1, 1) := by decide +kernel
theorem dX11_sheet_60 : decode cX11_sheet 60 = .ok (.imul, 1) := by decide +kernel
theorem dX11_sheet_61 : decode cX11_sheet 61 = .ok (.iload 4, 2) := by decide +kernel
theorem dX11_sheet_63 : decode cX11_sheet 63 = .ok (.iadd, 1) := by decide +kernel
theorem dX11_sheet_64 : decode cX11_sheet 64 = .ok (.lconst 0, 1) := by decide +kernel
theorem dX11_sheet_65 : decode cX11_sheet 65 = .ok (.lastore, 1) := by decide +kernel
theorem dX11_sheet_66 : decode cX11_sheet 66 = .ok (.iinc 4 1, 3) := by decide +kernel
theorem dX11_sheet_69 : decode cX11_sheet 69 = .ok (.goto (-23), 3) := by decide +kernel
theorem dX11_sheet_72 : decode cX11_sheet 72 = .ok (.iload_n 3, 1) := by decide +kernel
theorem dX11_sheet_73 : decode cX11_sheet 73 = .ok (.ireturn, 1) := by decide +kernel
theorem dX11_drop_0 : decode cX11_drop 0 = .ok (.iload_n 1, 1) := by decide +kernel
theorem dX11_drop_1 : decode cX11_drop 1 = .ok (.invokestatic 273, 3) := by decide +kernel
theorem dX11_drop_4 : decode cX11_drop 4 = .ok (.ifCond .ne 5, 3) := by decide +kernel
theorem dX11_drop_7 : decode cX11_drop 7 = .ok (.iconst (-1), 1) := by decide +kernel
theorem dX11_drop_8 : decode cX11_drop 8 = .ok (.ireturn, 1) := by decide +kernel
theorem dX11_drop_9 : decode cX11_drop 9 = .ok (.aload_n 0, 1) := by decide +kernel
theorem dX11_drop_10 : decode cX11_drop 10 = .ok (.getfield 50, 3) := by decide +kernel
theorem dX11_drop_13 : decode cX11_drop 13 = .ok (.iload_n 1, 1) := by decide +kernel
theorem dX11_drop_14 : decode cX11_drop 14 = .ok (.iaload, 1) := by decide +kernel
theorem dX11_drop_15 : decode cX11_drop 15 = .ok (.ifCond .ge 6, 3) := by decide +kernel
theorem dX11_drop_18 : decode cX11_drop 18 = .ok (.bipush (-11), 2) := by decide +kernel
theorem dX11_drop_20 : decode cX11_drop 20 = .ok (.ireturn, 1) := by decide +kernel
theorem dX11_drop_21 : decode cX11_drop 21 = .ok (.aload_n 0, 1) := by decide +kernel
theorem dX11_drop_22 : decode cX11_drop 22 = .ok (.getfield 50, 3) := by decide +kernel
theorem dX11_drop_25 : decode cX11_drop 25 = .ok (.iload_n 1, 1) := by decide +kernel
theorem dX11_drop_26 : decode cX11_drop 26 = .ok (.iconst (-1), 1) := by decide +kernel
theorem dX11_drop_27 : decode cX11_drop 27 = .ok (.iastore, 1) := by decide +kernel
theorem dX11_drop_28 : decode cX11_drop 28 = .ok (.aload_n 0, 1) := by decide +kernel
theorem dX11_drop_29 : decode cX11_drop 29 = .ok (.getfield 53, 3) := by decide +kernel
theorem dX11_drop_32 : decode cX11_drop 32 = .ok (.iload_n 1, 1) := by decide +kernel
theorem dX11_drop_33 : decode cX11_drop 33 = .ok (.iaload, 1) := by decide +kernel
theorem dX11_drop_34 : decode cX11_drop 34 = .ok (.ireturn, 1) := by decide +kernel
theorem dX11_item_0 : decode cX11_item 0 = .ok (.iload_n 1, 1) := by decide +kernel
theorem dX11_item_1 : decode cX11_item 1 = .ok (.invokestatic 273, 3) := by decide +kernel
theorem dX11_item_4 : decode cX11_item 4 = .ok (.ifCond .eq 10, 3) := by decide +kernel
theorem dX11_item_7 : decode cX11_item 7 = .ok (.iload_n 2, 1) := by decide +kernel
theorem dX11_item_8 : decode cX11_item 8 = .ok (.invokestatic 276, 3) := by decide +kernel
theorem dX11_item_11 : decode cX11_item 11 = .ok (.ifCond .ne 5, 3) := by decide +kernel
theorem dX11_item_14 : decode cX11_item 14 = .ok (.iconst (-1), 1) := by decide +kernel
theorem dX11_item_15 : decode cX11_item 15 = .ok (.ireturn, 1) := by decide +kernel
theorem dX11_item_16 : decode cX11_item 16 = .ok (.aload_n 0, 1) := by decide +kernel
theorem dX11_item_17 : decode cX11_item 17 = .ok (.iload_n 1, 1) := by decide +kernel
theorem dX11_item_18 : decode cX11_item 18 = .ok (.iload_n 2, 1) := by decide +kernel
theorem dX11_item_19 : decode cX11_item 19 = .ok (.iload_n 3, 1) := by decide +kernel
theorem dX11_item_20 : decode cX11_item 20 = .ok (.iconst 1, 1) := by decide +kernel
theorem dX11_item_21 : decode cX11_item 21 = .ok (.invokevirtual 279, 3) := by decide +kernel
theorem dX11_item_24 : decode cX11_item 24 = .ok (.istore 6, 2) := by decide +kernel
theorem dX11_item_26 : decode cX11_item 26 = .ok (.iload 6, 2) := by decide +kernel
theorem dX11_item_28 : decode cX11_item 28 = .ok (.ifCond .ge 6, 3) := by decide +kernel
theorem dX11_item_31 : decode cX11_item 31 = .ok (.iload 6, 2) := by decide +kernel
theorem dX11_item_33 : decode cX11_item 33 = .ok (.ireturn, 1) := by decide +kernel
theorem dX11_item_34 : decode cX11_item 34 = .ok (.aload_n 0, 1) := by decide +kernel
theorem dX11_item_35 : decode cX11_item 35 = .ok (.iload_n 1, 1) := by decide +kernel
theorem dX11_item_36 : decode cX11_item 36 = .ok (.iload_n 3, 1) := by decide +kernel
theorem dX11_item_37 : decode cX11_item 37 = .ok (.lload 4, 2) := by decide +kernel
theorem dX11_item_39 : decode cX11_item 39 = .ok (.invokevirtual 285, 3) := by decide +kernel
theorem dX11_item_42 : decode cX11_item 42 = .ok (.iconst 1, 1) := by decide +kernel
theorem dX11_item_43 : decode cX11_item 43 = .ok (.ireturn, 1) := by decide +kernel
theorem dX11_copy_0 : decode cX11_copy 0 = .ok (.iload_n 1, 1) := by decide +kernel
theorem dX11_copy_1 : decode cX11_copy 1 = .ok (.invokestatic 273, 3) := by decide +kernel
theorem dX11_copy_4 : decode cX11_copy 4 = .ok (.ifCond .eq 10, 3) := by decide +kernel
theorem dX11_copy_7 : decode cX11_copy 7 = .ok (.iload_n 3, 1) := by decide +kernel
theorem dX11_copy_8 : decode cX11_copy 8 = .ok (.invokestatic 273, 3) := by decide +kernel
theorem dX11_copy_11 : decode cX11_copy 11 = .ok (.ifCond .ne 5, 3) := by decide +kernel
theorem dX11_copy_14 : decode cX11_copy 14 = .ok (.iconst (-1), 1) := by decide +kernel
theorem dX11_copy_15 : decode cX11_copy 15 = .ok (.ireturn, 1) := by decide +kernel
theorem dX11_copy_16 : decode cX11_copy 16 = .ok (.aload_n 0, 1) := by decide +kernel
theorem dX11_copy_17 : decode cX11_copy 17 = .ok (.getfield 50, 3) := by decide +kernel
theorem dX11_copy_20 : decode cX11_copy 20 = .ok (.iload_n 1, 1) := by decide +kernel
theorem dX11_copy_21 : decode cX11_copy 21 = .ok (.iaload, 1) := by decide +kernel
theorem dX11_copy_22 : decode cX11_copy 22 = .ok (.ifCond .lt 12, 3) := by decide +kernel
theorem dX11_copy_25 : decode cX11_copy 25 = .ok (.aload_n 0, 1) := by decide +kernel
theorem dX11_copy_26 : decode cX11_copy 26 = .ok (.getfield 50, 3) := by decide +kernel
theorem dX11_copy_29 : decode cX11_copy 29 = .ok (.iload_n 3, 1) := by decide +kernel
theorem dX11_copy_30 : decode cX11_copy 30 = .ok (.iaload, 1) := by decide +kernel
theorem dX11_copy_31 : decode cX11_copy 31 = .ok (.ifCond .ge 6, 3) := by decide +kernel
theorem dX11_copy_34 : decode cX11_copy 34 = .ok (.bipush (-11), 2) := by decide +kernel
theorem dX11_copy_36 : decode cX11_copy 36 = .ok (.ireturn, 1) := by decide +kernel
theorem dX11_copy_37 : decode cX11_copy 37 = .ok (.aload_n 0, 1) := by decide +kernel
theorem dX11_copy_38 : decode cX11_copy 38 = .ok (.getfield 50, 3) := by decide +kernel
theorem dX11_copy_41 : decode cX11_copy 41 = .ok (.iload_n 1, 1) := by decide +kernel
theorem dX11_copy_42 : decode cX11_copy 42 = .ok (.iaload, 1) := by decide +kernel
theorem dX11_copy_43 : decode cX11_copy 43 = .ok (.aload_n 0, 1) := by decide +kernel
theorem dX11_copy_44 : decode cX11_copy 44 = .ok (.getfield 50, 3) := by decide +kernel
theorem dX11_copy_47 : decode cX11_copy 47 = .ok (.iload_n 3, 1) := by decide +kernel
theorem dX11_copy_48 : decode cX11_copy 48 = .ok (.iaload, 1) := by decide +kernel
theorem dX11_copy_49 : decode cX11_copy 49 = .ok (.if_icmp .eq 6, 3) := by decide +kernel
theorem dX11_copy_52 : decode cX11_copy 52 = .ok (.bipush (-12), 2) := by decide +kernel
theorem dX11_copy_54 : decode cX11_copy 54 = .ok (.ireturn, 1) := by decide +kernel
theorem dX11_copy_55 : decode cX11_copy 55 = .ok (.iload 5, 2) := by decide +kernel
theorem dX11_copy_57 : decode cX11_copy 57 = .ok (.ifCond .lt 38, 3) := by decide +kernel
theorem dX11_copy_60 : decode cX11_copy 60 = .ok (.aload_n 0, 1) := by decide +kernel
theorem dX11_copy_61 : decode cX11_copy 61 = .ok (.iload_n 1, 1) := by decide +kernel
theorem dX11_copy_62 : decode cX11_copy 62 = .ok (.aload_n 0, 1) := by decide +kernel
theorem dX11_copy_63 : decode cX11_copy 63 = .ok (.getfield 50, 3) := by decide +kernel
theorem dX11_copy_66 : decode cX11_copy 66 = .ok (.iload_n 1, 1) := by decide +kernel
theorem dX11_copy_67 : decode cX11_copy 67 = .ok (.iaload, 1) := by decide +kernel
theorem dX11_copy_68 : decode cX11_copy 68 = .ok (.iload_n 2, 1) := by decide +kernel
theorem dX11_copy_69 : decode cX11_copy 69 = .ok (.iload 5, 2) := by decide +kernel
theorem dX11_copy_71 : decode cX11_copy 71 = .ok (.invokevirtual 279, 3) := by decide +kernel
theorem dX11_copy_74 : decode cX11_copy 74 = .ok (.ifCond .lt 21, 3) := by decide +kernel
theorem dX11_copy_77 : decode cX11_copy 77 = .ok (.aload_n 0, 1) := by decide +kernel
theorem dX11_copy_78 : decode cX11_copy 78 = .ok (.iload_n 3, 1) := by decide +kernel
theorem dX11_copy_79 : decode cX11_copy 79 = .ok (.aload_n 0, 1) := by decide +kernel
theorem dX11_copy_80 : decode cX11_copy 80 = .ok (.getfield 50, 3) := by decide +kernel
theorem dX11_copy_83 : decode cX11_copy 83 = .ok (.iload_n 3, 1) := by decide +kernel
theorem dX11_copy_84 : decode cX11_copy 84 = .ok (.iaload, 1) := by decide +kernel
theorem dX11_copy_85 : decode cX11_copy 85 = .ok (.iload 4, 2) := by decide +kernel
theorem dX11_copy_87 : decode cX11_copy 87 = .ok (.iload 5, 2) := by decide +kernel
theorem dX11_copy_89 : decode cX11_copy 89 = .ok (.invokevirtual 279, 3) := by decide +kernel
theorem dX11_copy_92 : decode cX11_copy 92 = .ok (.ifCond .ge 6, 3) := by decide +kernel
theorem dX11_copy_95 : decode cX11_copy 95 = .ok (.bipush (-13), 2) := by decide +kernel
theorem dX11_copy_97 : decode cX11_copy 97 = .ok (.ireturn, 1) := by decide +kernel
theorem dX11_copy_98 : decode cX11_copy 98 = .ok (.iconst 0, 1) := by decide +kernel
theorem dX11_copy_99 : decode cX11_copy 99 = .ok (.istore 6, 2) := by decide +kernel
theorem dX11_copy_101 : decode cX11_copy 101 = .ok (.iload 6, 2) := by decide +kernel
theorem dX11_copy_103 : decode cX11_copy 103 = .ok (.iload 5, 2) := by decide +kernel
theorem dX11_copy_105 : decode cX11_copy 105 = .ok (.if_icmp .ge 30, 3) := by decide +kernel
theorem dX11_copy_108 : decode cX11_copy 108 = .ok (.aload_n 0, 1) := by decide +kernel
theorem dX11_copy_109 : decode cX11_copy 109 = .ok (.getfield 60, 3) := by decide +kernel
theorem dX11_copy_112 : decode cX11_copy 112 = .ok (.iload 6, 2) := by decide +kernel
theorem dX11_copy_114 : decode cX11_copy 114 = .ok (.aload_n 0, 1) := by decide +kernel
theorem dX11_copy_115 : decode cX11_copy 115 = .ok (.getfield 56, 3) := by decide +kernel
theorem dX11_copy_118 : decode cX11_copy 118 = .ok (.bipush 16, 2) := by decide +kernel
theorem dX11_copy_120 : decode cX11_copy 120 = .ok (.iload_n 1, 1) := by decide +kernel
theorem dX11_copy_121 : decode cX11_copy 121 = .ok (.imul, 1) := by decide +kernel
theorem dX11_copy_122 : decode cX11_copy 122 = .ok (.iload_n 2, 1) := by decide +kernel
theorem dX11_copy_123 : decode cX11_copy 123 = .ok (.iadd, 1) := by decide +kernel
theorem dX11_copy_124 : decode cX11_copy 124 = .ok (.iload 6, 2) := by decide +kernel
theorem dX11_copy_126 : decode cX11_copy 126 = .ok (.iadd, 1) := by decide +kernel
theorem dX11_copy_127 : decode cX11_copy 127 = .ok (.laload, 1) := by decide +kernel
theorem dX11_copy_128 : decode cX11_copy 128 = .ok (.lastore, 1) := by decide +kernel
theorem dX11_copy_129 : decode cX11_copy 129 = .ok (.iinc 6 1, 3) := by decide +kernel
theorem dX11_copy_132 : decode cX11_copy 132 = .ok (.goto (-31), 3) := by decide +kernel
theorem dX11_copy_135 : decode cX11_copy 135 = .ok (.iconst 0, 1) := by decide +kernel
theorem dX11_copy_136 : decode cX11_copy 136 = .ok (.istore 6, 2) := by decide +kernel
theorem dX11_copy_138 : decode cX11_copy 138 = .ok (.iload 6, 2) := by decide +kernel
theorem dX11_copy_140 : decode cX11_copy 140 = .ok (.iload 5, 2) := by decide +kernel
theorem dX11_copy_142 : decode cX11_copy 142 = .ok (.if_icmp .ge 31, 3) := by decide +kernel
theorem dX11_copy_145 : decode cX11_copy 145 = .ok (.aload_n 0, 1) := by decide +kernel
theorem dX11_copy_146 : decode cX11_copy 146 = .ok (.getfield 56, 3) := by decide +kernel
theorem dX11_copy_149 : decode cX11_copy 149 = .ok (.bipush 16, 2) := by decide +kernel
theorem dX11_copy_151 : decode cX11_copy 151 = .ok (.iload_n 3, 1) := by decide +kernel
theorem dX11_copy_152 : decode cX11_copy 152 = .ok (.imul, 1) := by decide +kernel
theorem dX11_copy_153 : decode cX11_copy 153 = .ok (.iload 4, 2) := by decide +kernel
theorem dX11_copy_155 : decode cX11_copy 155 = .ok (.iadd, 1) := by decide +kernel
theorem dX11_copy_156 : decode cX11_copy 156 = .ok (.iload 6, 2) := by decide +kernel
theorem dX11_copy_158 : decode cX11_copy 158 = .ok (.iadd, 1) := by decide +kernel
theorem dX11_copy_159 : decode cX11_copy 159 = .ok (.aload_n 0, 1) := by decide +kernel
theorem dX11_copy_160 : decode cX11_copy 160 = .ok (.getfield 60, 3) := by decide +kernel
theorem dX11_copy_163 : decode cX11_copy 163 = .ok (.iload 6, 2) := by decide +kernel
theorem dX11_copy_165 : decode cX11_copy 165 = .ok (.laload, 1) := by decide +kernel
theorem dX11_copy_166 : decode cX11_copy 166 = .ok (.lastore, 1) := by decide +kernel
theorem dX11_copy_167 : decode cX11_copy 167 = .ok (.iinc 6 1, 3) := by decide +kernel
theorem dX11_copy_170 : decode cX11_copy 170 = .ok (.goto (-32), 3) := by decide +kernel
theorem dX11_copy_173 : decode cX11_copy 173 = .ok (.iload 5, 2) := by decide +kernel
theorem dX11_copy_175 : decode cX11_copy 175 = .ok (.ireturn, 1) := by decide +kernel
