theorem dX0_init_0 : decode cX0_init 0 = .ok (.aload_n 0, 1) := by decide +kernel
theorem dX0_init_1 : decode cX0_init 1 = .ok (.invokespecial 3, 3) := by decide +kernel
theorem dX0_init_4 : decode cX0_init 4 = .ok (.aload_n 0, 1) := by decide +kernel
theorem dX0_init_5 : decode cX0_init 5 = .ok (.bipush 6, 2) := by decide +kernel
theorem dX0_init_7 : decode cX0_init 7 = .ok (.newarray .int, 2) := by decide +kernel
theorem dX0_init_9 : decode cX0_init 9 = .ok (.putfield 9, 3) := by decide +kernel
theorem dX0_init_12 : decode cX0_init 12 = .ok (.aload_n 0, 1) := by decide +kernel
theorem dX0_init_13 : decode cX0_init 13 = .ok (.bipush 6, 2) := by decide +kernel
theorem dX0_init_15 : decode cX0_init 15 = .ok (.newarray .int, 2) := by decide +kernel
theorem dX0_init_17 : decode cX0_init 17 = .ok (.putfield 15, 3) := by decide +kernel
theorem dX0_init_20 : decode cX0_init 20 = .ok (.aload_n 0, 1) := by decide +kernel
theorem dX0_init_21 : decode cX0_init 21 = .ok (.bipush 6, 2) := by decide +kernel
theorem dX0_init_23 : decode cX0_init 23 = .ok (.newarray .int, 2) := by decide +kernel
theorem dX0_init_25 : decode cX0_init 25 = .ok (.putfield 18, 3) := by decide +kernel
theorem dX0_init_28 : decode cX0_init 28 = .ok (.aload_n 0, 1) := by decide +kernel
theorem dX0_init_29 : decode cX0_init 29 = .ok (.bipush (-4), 2) := by decide +kernel
theorem dX0_init_31 : decode cX0_init 31 = .ok (.putfield 21, 3) := by decide +kernel
theorem dX0_init_34 : decode cX0_init 34 = .ok (.return_, 1) := by decide +kernel
theorem dX0_goBetween_0 : decode cX0_goBetween 0 = .ok (.iload_n 3, 1) := by decide +kernel
theorem dX0_goBetween_1 : decode cX0_goBetween 1 = .ok (.aload_n 1, 1) := by decide +kernel
theorem dX0_goBetween_2 : decode cX0_goBetween 2 = .ok (.getfield 25, 3) := by decide +kernel
theorem dX0_goBetween_5 : decode cX0_goBetween 5 = .ok (.iload 4, 2) := by decide +kernel
theorem dX0_goBetween_7 : decode cX0_goBetween 7 = .ok (.invokestatic 30, 3) := by decide +kernel
theorem dX0_goBetween_10 : decode cX0_goBetween 10 = .ok (.iadd, 1) := by decide +kernel
theorem dX0_goBetween_11 : decode cX0_goBetween 11 = .ok (.istore 5, 2) := by decide +kernel
theorem dX0_goBetween_13 : decode cX0_goBetween 13 = .ok (.iload 5, 2) := by decide +kernel
theorem dX0_goBetween_15 : decode cX0_goBetween 15 = .ok (.aload_n 2, 1) := by decide +kernel
theorem dX0_goBetween_16 : decode cX0_goBetween 16 = .ok (.invokevirtual 34, 3) := by decide +kernel
theorem dX0_goBetween_19 : decode cX0_goBetween 19 = .ok (.iload 4, 2) := by decide +kernel
theorem dX0_goBetween_21 : decode cX0_goBetween 21 = .ok (.invokestatic 30, 3) := by decide +kernel
theorem dX0_goBetween_24 : decode cX0_goBetween 24 = .ok (.iadd, 1) := by decide +kernel
theorem dX0_goBetween_25 : decode cX0_goBetween 25 = .ok (.istore 6, 2) := by decide +kernel
theorem dX0_goBetween_27 : decode cX0_goBetween 27 = .ok (.aload_n 1, 1) := by decide +kernel
theorem dX0_goBetween_28 : decode cX0_goBetween 28 = .ok (.iload 5, 2) := by decide +kernel
theorem dX0_goBetween_30 : decode cX0_goBetween 30 = .ok (.iload 6, 2) := by decide +kernel
theorem dX0_goBetween_32 : decode cX0_goBetween 32 = .ok (.aload_n 1, 1) := by decide +kernel
theorem dX0_goBetween_33 : decode cX0_goBetween 33 = .ok (.getfield 40, 3) := by decide +kernel
theorem dX0_goBetween_36 : decode cX0_goBetween 36 = .ok (.invokevirtual 43, 3) := by decide +kernel
theorem dX0_goBetween_39 : decode cX0_goBetween 39 = .ok (.istore 7, 2) := by decide +kernel
theorem dX0_goBetween_41 : decode cX0_goBetween 41 = .ok (.iload 7, 2) := by decide +kernel
theorem dX0_goBetween_43 : decode cX0_goBetween 43 = .ok (.iload 6, 2) := by decide +kernel
theorem dX0_goBetween_45 : decode cX0_goBetween 45 = .ok (.iconst 1, 1) := by decide +kernel
theorem dX0_goBetween_46 : decode cX0_goBetween 46 = .ok (.isub, 1) := by decide +kernel
theorem dX0_goBetween_47 : decode cX0_goBetween 47 = .ok (.if_icmp .ge 11, 3) := by decide +kernel
theorem dX0_goBetween_50 : decode cX0_goBetween 50 = .ok (.aload_n 0, 1) := by decide +kernel
theorem dX0_goBetween_51 : decode cX0_goBetween 51 = .ok (.iload 7, 2) := by decide +kernel
theorem dX0_goBetween_53 : decode cX0_goBetween 53 = .ok (.putfield 47, 3) := by decide +kernel
theorem dX0_goBetween_56 : decode cX0_goBetween 56 = .ok (.iconst 2, 1) := by decide +kernel
theorem dX0_goBetween_57 : decode cX0_goBetween 57 = .ok (.ireturn, 1) := by decide +kernel
theorem dX0_goBetween_58 : decode cX0_goBetween 58 = .ok (.aload_n 0, 1) := by decide +kernel
theorem dX0_goBetween_59 : decode cX0_goBetween 59 = .ok (.iload 6, 2) := by decide +kernel
theorem dX0_goBetween_61 : decode cX0_goBetween 61 = .ok (.putfield 47, 3) := by decide +kernel
theorem dX0_goBetween_64 : decode cX0_goBetween 64 = .ok (.iload 7, 2) := by decide +kernel
theorem dX0_goBetween_66 : decode cX0_goBetween 66 = .ok (.iload 6, 2) := by decide +kernel
theorem dX0_goBetween_68 : decode cX0_goBetween 68 = .ok (.if_icmp .ne 7, 3) := by decide +kernel
theorem dX0_goBetween_71 : decode cX0_goBetween 71 = .ok (.iconst 0, 1) := by decide +kernel
theorem dX0_goBetween_72 : decode cX0_goBetween 72 = .ok (.goto 4, 3) := by decide +kernel
theorem dX0_goBetween_75 : decode cX0_goBetween 75 = .ok (.iconst 1, 1) := by decide +kernel
theorem dX0_goBetween_76 : decode cX0_goBetween 76 = .ok (.ireturn, 1) := by decide +kernel
theorem dX0_go_0 : decode cX0_go 0 = .ok (.aload_n 0, 1) := by decide +kernel
theorem dX0_go_1 : decode cX0_go 1 = .ok (.bipush (-4), 2) := by decide +kernel
theorem dX0_go_3 : decode cX0_go 3 = .ok (.putfield 21, 3) := by decide +kernel
theorem dX0_go_6 : decode cX0_go 6 = .ok (.aload_n 0, 1) := by decide +kernel
theorem dX0_go_7 : decode cX0_go 7 = .ok (.iconst 0, 1) := by decide +kernel
theorem dX0_go_8 : decode cX0_go 8 = .ok (.putfield 50, 3) := by decide +kernel
theorem dX0_go_11 : decode cX0_go 11 = .ok (.aload_n 0, 1) := by decide +kernel
theorem dX0_go_12 : decode cX0_go 12 = .ok (.iload_n 3, 1) := by decide +kernel
theorem dX0_go_13 : decode cX0_go 13 = .ok (.putfield 47, 3) := by decide +kernel
theorem dX0_go_16 : decode cX0_go 16 = .ok (.iconst 0, 1) := by decide +kernel
theorem dX0_go_17 : decode cX0_go 17 = .ok (.istore 4, 2) := by decide +kernel
theorem dX0_go_19 : decode cX0_go 19 = .ok (.iload 4, 2) := by decide +kernel
theorem dX0_go_21 : decode cX0_go 21 = .ok (.aload_n 1, 1) := by decide +kernel
theorem dX0_go_22 : decode cX0_go 22 = .ok (.getfield 53, 3) := by decide +kernel
theorem dX0_go_25 : decode cX0_go 25 = .ok (.if_icmp .ge 83, 3) := by decide +kernel
theorem dX0_go_28 : decode cX0_go 28 = .ok (.aload_n 0, 1) := by decide +kernel
theorem dX0_go_29 : decode cX0_go 29 = .ok (.getfield 21, 3) := by decide +kernel
theorem dX0_go_32 : decode cX0_go 32 = .ok (.bipush (-4), 2) := by decide +kernel
theorem dX0_go_34 : decode cX0_go 34 = .ok (.if_icmp .ne 74, 3) := by decide +kernel
theorem dX0_go_37 : decode cX0_go 37 = .ok (.aload_n 0, 1) := by decide +kernel
theorem dX0_go_38 : decode cX0_go 38 = .ok (.aload_n 1, 1) := by decide +kernel
theorem dX0_go_39 : decode cX0_go 39 = .ok (.getfield 58, 3) := by decide +kernel
theorem dX0_go_42 : decode cX0_go 42 = .ok (.iload 4, 2) := by decide +kernel
theorem dX0_go_44 : decode cX0_go 44 = .ok (.aaload, 1) := by decide +kernel
theorem dX0_go_45 : decode cX0_go 45 = .ok (.aload_n 2, 1) := by decide +kernel
theorem dX0_go_46 : decode cX0_go 46 = .ok (.aload_n 0, 1) := by decide +kernel
theorem dX0_go_47 : decode cX0_go 47 = .ok (.getfield 47, 3) := by decide +kernel
theorem dX0_go_50 : decode cX0_go 50 = .ok (.aload_n 0, 1) := by decide +kernel
theorem dX0_go_51 : decode cX0_go 51 = .ok (.getfield 9, 3) := by decide +kernel
theorem dX0_go_54 : decode cX0_go 54 = .ok (.iload 4, 2) := by decide +kernel
theorem dX0_go_56 : decode cX0_go 56 = .ok (.iaload, 1) := by decide +kernel
theorem dX0_go_57 : decode cX0_go 57 = .ok (.invokevirtual 62, 3) := by decide +kernel
theorem dX0_go_60 : decode cX0_go 60 = .ok (.istore 5, 2) := by decide +kernel
theorem dX0_go_62 : decode cX0_go 62 = .ok (.aload_n 0, 1) := by decide +kernel
theorem dX0_go_63 : decode cX0_go 63 = .ok (.dup, 1) := by decide +kernel
theorem dX0_go_64 : decode cX0_go 64 = .ok (.getfield 50, 3) := by decide +kernel
theorem dX0_go_67 : decode cX0_go 67 = .ok (.iload 5, 2) := by decide +kernel
theorem dX0_go_69 : decode cX0_go 69 = .ok (.iconst 1, 1) := by decide +kernel
theorem dX0_go_70 : decode cX0_go 70 = .ok (.if_icmp .ne 10, 3) := by decide +kernel
theorem dX0_go_73 : decode cX0_go 73 = .ok (.iconst 1, 1) := by decide +kernel
theorem dX0_go_74 : decode cX0_go 74 = .ok (.iload 4, 2) := by decide +kernel
theorem dX0_go_76 : decode cX0_go 76 = .ok (.ishl, 1) := by decide +kernel
theorem dX0_go_77 : decode cX0_go 77 = .ok (.goto 4, 3) := by decide +kernel
theorem dX0_go_80 : decode cX0_go 80 = .ok (.iconst 0, 1) := by decide +kernel
theorem dX0_go_81 : decode cX0_go 81 = .ok (.ior, 1) := by decide +kernel
theorem dX0_go_82 : decode cX0_go 82 = .ok (.putfield 50, 3) := by decide +kernel
theorem dX0_go_85 : decode cX0_go 85 = .ok (.aload_n 0, 1) := by decide +kernel
theorem dX0_go_86 : decode cX0_go 86 = .ok (.iload 5, 2) := by decide +kernel
theorem dX0_go_88 : decode cX0_go 88 = .ok (.iconst 2, 1) := by decide +kernel
theorem dX0_go_89 : decode cX0_go 89 = .ok (.if_icmp .ne 8, 3) := by decide +kernel
theorem dX0_go_92 : decode cX0_go 92 = .ok (.iload 4, 2) := by decide +kernel
theorem dX0_go_94 : decode cX0_go 94 = .ok (.goto 5, 3) := by decide +kernel
theorem dX0_go_97 : decode cX0_go 97 = .ok (.bipush (-4), 2) := by decide +kernel
theorem dX0_go_99 : decode cX0_go 99 = .ok (.putfield 21, 3) := by decide +kernel
theorem dX0_go_102 : decode cX0_go 102 = .ok (.iinc 4 1, 3) := by decide +kernel
theorem dX0_go_105 : decode cX0_go 105 = .ok (.goto (-86), 3) := by decide +kernel
theorem dX0_go_108 : decode cX0_go 108 = .ok (.return_, 1) := by decide +kernel
theorem dX0_isClean_0 : decode cX0_isClean 0 = .ok (.aload_n 0, 1) := by decide +kernel
theorem dX0_isClean_1 : decode cX0_isClean 1 = .ok (.getfield 21, 3) := by decide +kernel
theorem dX0_isClean_4 : decode cX0_isClean 4 = .ok (.bipush (-4), 2) := by decide +kernel
theorem dX0_isClean_6 : decode cX0_isClean 6 = .ok (.if_icmp .ne 14, 3) := by decide +kernel
theorem dX0_isClean_9 : decode cX0_isClean 9 = .ok (.aload_n 0, 1) := by decide +kernel
theorem dX0_isClean_10 : decode cX0_isClean 10 = .ok (.getfield 50, 3) := by decide +kernel
theorem dX0_isClean_13 : decode cX0_isClean 13 = .ok (.ifCond .ne 7, 3) := by decide +kernel
theorem dX0_isClean_16 : decode cX0_isClean 16 = .ok (.iconst 1, 1) := by decide +kernel
theorem dX0_isClean_17 : decode cX0_isClean 17 = .ok (.goto 4, 3) := by decide +kernel
theorem dX0_isClean_20 : decode cX0_isClean 20 = .ok (.iconst 0, 1) := by decide +kernel
theorem dX0_isClean_21 : decode cX0_isClean 21 = .ok (.ireturn, 1) := by decide +kernel
theorem dX0_judgement_0 : decode cX0_judgement 0 = .ok (.iload_n 1, 1) := by decide +kernel
theorem dX0_judgement_1 : decode cX0_judgement 1 = .ok (.lookupswitch 37 #[(0, 27), (1, 32)], 27) := by decide +kernel
theorem dX0_judgement_28 : decode cX0_judgement 28 = .ok (.aload_n 0, 1) := by decide +kernel
theorem dX0_judgement_29 : decode cX0_judgement 29 = .ok (.getfield 21, 3) := by decide +kernel
theorem dX0_judgement_32 : decode cX0_judgement 32 = .ok (.ireturn, 1) := by decide +kernel
theorem dX0_judgement_33 : decode cX0_judgement 33 = .ok (.aload_n 0, 1) := by decide +kernel
theorem dX0_judgement_34 : decode cX0_judgement 34 = .ok (.getfield 50, 3) := by decide +kernel
theorem dX0_judgement_37 : decode cX0_judgement 37 = .ok (.ireturn, 1) := by decide +kernel
theorem dX0_judgement_38 : decode cX0_judgement 38 = .ok (.aload_n 0, 1) := by decide +kernel
theorem dX0_judgement_39 : decode cX0_judgement 39 = .ok (.getfield 47, 3) := by decide +kernel
theorem dX0_judgement_42 : decode cX0_judgement 42 = .ok (.ireturn, 1) := by decide +kernel
theorem dX0_planFull_0 : decode cX0_planFull 0 = .ok (.iload_n 3, 1) := by decide +kernel
theorem dX0_planFull_1 : decode cX0_planFull 1 = .ok (.istore 4, 2) := by decide +kernel
theorem dX0_planFull_3 : decode cX0_planFull 3 = .ok (.iconst 0, 1) := by decide +kernel
theorem dX0_planFull_4 : decode cX0_planFull 4 = .ok (.istore 5, 2) := by decide +kernel
theorem dX0_planFull_6 : decode cX0_planFull 6 = .ok (.iload 5, 2) := by decide +kernel
theorem dX0_planFull_8 : decode cX0_planFull 8 = .ok (.aload_n 1, 1) := by decide +kernel
theorem dX0_planFull_9 : decode cX0_planFull 9 = .ok (.getfield 53, 3) := by decide +kernel
theorem dX0_planFull_12 : decode cX0_planFull 12 = .ok (.if_icmp .ge 71, 3) := by decide +kernel
theorem dX0_planFull_15 : decode cX0_planFull 15 = .ok (.aload_n 0, 1) := by decide +kernel
theorem dX0_planFull_16 : decode cX0_planFull 16 = .ok (.getfield 15, 3) := by decide +kernel
theorem dX0_planFull_19 : decode cX0_planFull 19 = .ok (.iload 5, 2) := by decide +kernel
theorem dX0_planFull_21 : decode cX0_planFull 21 = .ok (.iload 4, 2) := by decide +kernel
theorem dX0_planFull_23 : decode cX0_planFull 23 = .ok (.aload_n 1, 1) := by decide +kernel
theorem dX0_planFull_24 : decode cX0_planFull 24 = .ok (.getfield 58, 3) := by decide +kernel
theorem dX0_planFull_27 : decode cX0_planFull 27 = .ok (.iload 5, 2) := by decide +kernel
theorem dX0_planFull_29 : decode cX0_planFull 29 = .ok (.aaload, 1) := by decide +kernel
theorem dX0_planFull_30 : decode cX0_planFull 30 = .ok (.getfield 25, 3) := by decide +kernel
theorem dX0_planFull_33 : decode cX0_planFull 33 = .ok (.aload_n 2, 1) := by decide +kernel
theorem dX0_planFull_34 : decode cX0_planFull 34 = .ok (.invokevirtual 66, 3) := by decide +kernel
theorem dX0_planFull_37 : decode cX0_planFull 37 = .ok (.invokestatic 30, 3) := by decide +kernel
theorem dX0_planFull_40 : decode cX0_planFull 40 = .ok (.iadd, 1) := by decide +kernel
theorem dX0_planFull_41 : decode cX0_planFull 41 = .ok (.iastore, 1) := by decide +kernel
theorem dX0_planFull_42 : decode cX0_planFull 42 = .ok (.aload_n 0, 1) := by decide +kernel
theorem dX0_planFull_43 : decode cX0_planFull 43 = .ok (.getfield 18, 3) := by decide +kernel
theorem dX0_planFull_46 : decode cX0_planFull 46 = .ok (.iload 5, 2) := by decide +kernel
theorem dX0_planFull_48 : decode cX0_planFull 48 = .ok (.aload_n 0, 1) := by decide +kernel
theorem dX0_planFull_49 : decode cX0_planFull 49 = .ok (.getfield 15, 3) := by decide +kernel
theorem dX0_planFull_52 : decode cX0_planFull 52 = .ok (.iload 5, 2) := by decide +kernel
theorem dX0_planFull_54 : decode cX0_planFull 54 = .ok (.iaload, 1) := by decide +kernel
theorem dX0_planFull_55 : decode cX0_planFull 55 = .ok (.aload_n 2, 1) := by decide +kernel
theorem dX0_planFull_56 : decode cX0_planFull 56 = .ok (.invokevirtual 34, 3) := by decide +kernel
theorem dX0_planFull_59 : decode cX0_planFull 59 = .ok (.aload_n 2, 1) := by decide +kernel
theorem dX0_planFull_60 : decode cX0_planFull 60 = .ok (.invokevirtual 66, 3) := by decide +kernel
theorem dX0_planFull_63 : decode cX0_planFull 63 = .ok (.invokestatic 30, 3) := by decide +kernel
theorem dX0_planFull_66 : decode cX0_planFull 66 = .ok (.iadd, 1) := by decide +kernel
theorem dX0_planFull_67 : decode cX0_planFull 67 = .ok (.iastore, 1) := by decide +kernel
theorem dX0_planFull_68 : decode cX0_planFull 68 = .ok (.aload_n 0, 1) := by decide +kernel
theorem dX0_planFull_69 : decode cX0_planFull 69 = .ok (.getfield 18, 3) := by decide +kernel
theorem dX0_planFull_72 : decode cX0_planFull 72 = .ok (.iload 5, 2) := by decide +kernel
theorem dX0_planFull_74 : decode cX0_planFull 74 = .ok (.iaload, 1) := by decide +kernel
theorem dX0_planFull_75 : decode cX0_planFull 75 = .ok (.istore 4, 2) := by decide +kernel
theorem dX0_planFull_77 : decode cX0_planFull 77 = .ok (.iinc 5 1, 3) := by decide +kernel
theorem dX0_planFull_80 : decode cX0_planFull 80 = .ok (.goto (-74), 3) := by decide +kernel
theorem dX0_planFull_83 : decode cX0_planFull 83 = .ok (.return_, 1) := by decide +kernel
theorem dX0_isThroughBy_0 : decode cX0_isThroughBy 0 = .ok (.aload_n 1, 1) := by decide +kernel
theorem dX0_isThroughBy_1 : decode cX0_isThroughBy 1 = .ok (.getfield 58, 3) := by decide +kernel
theorem dX0_isThroughBy_4 : decode cX0_isThroughBy 4 = .ok (.iload_n 2, 1) := by decide +kernel
theorem dX0_isThroughBy_5 : decode cX0_isThroughBy 5 = .ok (.aaload, 1) := by decide +kernel
theorem dX0_isThroughBy_6 : decode cX0_isThroughBy 6 = .ok (.aload_n 0, 1) := by decide +kernel
theorem dX0_isThroughBy_7 : decode cX0_isThroughBy 7 = .ok (.getfield 15, 3) := by decide +kernel
theorem dX0_isThroughBy_10 : decode cX0_isThroughBy 10 = .ok (.iload_n 2, 1) := by decide +kernel
theorem dX0_isThroughBy_11 : decode cX0_isThroughBy 11 = .ok (.iaload, 1) := by decide +kernel
theorem dX0_isThroughBy_12 : decode cX0_isThroughBy 12 = .ok (.aload_n 0, 1) := by decide +kernel
theorem dX0_isThroughBy_13 : decode cX0_isThroughBy 13 = .ok (.getfield 18, 3) := by decide +kernel
theorem dX0_isThroughBy_16 : decode cX0_isThroughBy 16 = .ok (.iload_n 2, 1) := by decide +kernel
theorem dX0_isThroughBy_17 : decode cX0_isThroughBy 17 = .ok (.iaload, 1) := by decide +kernel
theorem dX0_isThroughBy_18 : decode cX0_isThroughBy 18 = .ok (.iload_n 3, 1) := by decide +kernel
theorem dX0_isThroughBy_19 : decode cX0_isThroughBy 19 = .ok (.invokevirtual 43, 3) := by decide +kernel
theorem dX0_isThroughBy_22 : decode cX0_isThroughBy 22 = .ok (.aload_n 0, 1) := by decide +kernel
theorem dX0_isThroughBy_23 : decode cX0_isThroughBy 23 = .ok (.getfield 18, 3) := by decide +kernel
theorem dX0_isThroughBy_26 : decode cX0_isThroughBy 26 = .ok (.iload_n 2, 1) := by decide +kernel
theorem dX0_isThroughBy_27 : decode cX0_isThroughBy 27 = .ok (.iaload, 1) := by decide +kernel
theorem dX0_isThroughBy_28 : decode cX0_isThroughBy 28 = .ok (.if_icmp .ne 7, 3) := by decide +kernel
theorem dX0_isThroughBy_31 : decode cX0_isThroughBy 31 = .ok (.iconst 1, 1) := by decide +kernel
theorem dX0_isThroughBy_32 : decode cX0_isThroughBy 32 = .ok (.goto 4, 3) := by decide +kernel
theorem dX0_isThroughBy_35 : decode cX0_isThroughBy 35 = .ok (.iconst 0, 1) := by decide +kernel
theorem dX0_isThroughBy_36 : decode cX0_isThroughBy 36 = .ok (.ireturn, 1) := by decide +kernel
theorem dX0_isThrough_0 : decode cX0_isThrough 0 = .ok (.aload_n 0, 1) := by decide +kernel
theorem dX0_isThrough_1 : decode cX0_isThrough 1 = .ok (.aload_n 1, 1) := by decide +kernel
theorem dX0_isThrough_2 : decode cX0_isThrough 2 = .ok (.iload_n 2, 1) := by decide +kernel
theorem dX0_isThrough_3 : decode cX0_isThrough 3 = .ok (.aload_n 1, 1) := by decide +kernel
theorem dX0_isThrough_4 : decode cX0_isThrough 4 = .ok (.getfield 58, 3) := by decide +kernel
theorem dX0_isThrough_7 : decode cX0_isThrough 7 = .ok (.iload_n 2, 1) := by decide +kernel
theorem dX0_isThrough_8 : decode cX0_isThrough 8 = .ok (.aaload, 1) := by decide +kernel
theorem dX0_isThrough_9 : decode cX0_isThrough 9 = .ok (.getfield 40, 3) := by decide +kernel
theorem dX0_isThrough_12 : decode cX0_isThrough 12 = .ok (.invokevirtual 69, 3) := by decide +kernel
theorem dX0_isThrough_15 : decode cX0_isThrough 15 = .ok (.ireturn, 1) := by decide +kernel
theorem dX0_isThroughBut_0 : decode cX0_isThroughBut 0 = .ok (.iconst 0, 1) := by decide +kernel
theorem dX0_isThroughBut_1 : decode cX0_isThroughBut 1 = .ok (.istore_n 3, 1) := by decide +kernel
theorem dX0_isThroughBut_2 : decode cX0_isThroughBut 2 = .ok (.iload_n 3, 1) := by decide +kernel
theorem dX0_isThroughBut_3 : decode cX0_isThroughBut 3 = .ok (.aload_n 1, 1) := by decide +kernel
theorem dX0_isThroughBut_4 : decode cX0_isThroughBut 4 = .ok (.getfield 53, 3) := by decide +kernel
theorem dX0_isThroughBut_7 : decode cX0_isThroughBut 7 = .ok (.if_icmp .ge 25, 3) := by decide +kernel
theorem dX0_isThroughBut_10 : decode cX0_isThroughBut 10 = .ok (.iload_n 3, 1) := by decide +kernel
theorem dX0_isThroughBut_11 : decode cX0_isThroughBut 11 = .ok (.iload_n 2, 1) := by decide +kernel
theorem dX0_isThroughBut_12 : decode cX0_isThroughBut 12 = .ok (.if_icmp .eq 14, 3) := by decide +kernel
theorem dX0_isThroughBut_15 : decode cX0_isThroughBut 15 = .ok (.aload_n 0, 1) := by decide +kernel
theorem dX0_isThroughBut_16 : decode cX0_isThroughBut 16 = .ok (.aload_n 1, 1) := by decide +kernel
theorem dX0_isThroughBut_17 : decode cX0_isThroughBut 17 = .ok (.iload_n 3, 1) := by decide +kernel
theorem dX0_isThroughBut_18 : decode cX0_isThroughBut 18 = .ok (.invokevirtual 73, 3) := by decide +kernel
theorem dX0_isThroughBut_21 : decode cX0_isThroughBut 21 = .ok (.ifCond .ne 5, 3) := by decide +kernel
theorem dX0_isThroughBut_24 : decode cX0_isThroughBut 24 = .ok (.iconst 0, 1) := by decide +kernel
theorem dX0_isThroughBut_25 : decode cX0_isThroughBut 25 = .ok (.ireturn, 1) := by decide +kernel
theorem dX0_isThroughBut_26 : decode cX0_isThroughBut 26 = .ok (.iinc 3 1, 3) := by decide +kernel
theorem dX0_isThroughBut_29 : decode cX0_isThroughBut 29 = .ok (.goto (-27), 3) := by decide +kernel
theorem dX0_isThroughBut_32 : decode cX0_isThroughBut 32 = .ok (.iconst 1, 1) := by decide +kernel
theorem dX0_isThroughBut_33 : decode cX0_isThroughBut 33 = .ok (.ireturn, 1) := by decide +kernel
theorem dX0_fogWeight_0 : decode cX0_fogWeight 0 = .ok (.iconst 1, 1) := by decide +kernel
theorem dX0_fogWeight_1 : decode cX0_fogWeight 1 = .ok (.istore_n 2, 1) := by decide +kernel
theorem dX0_fogWeight_2 : decode cX0_fogWeight 2 = .ok (.iconst 0, 1) := by decide +kernel
theorem dX0_fogWeight_3 : decode cX0_fogWeight 3 = .ok (.istore_n 3, 1) := by decide +kernel
theorem dX0_fogWeight_4 : decode cX0_fogWeight 4 = .ok (.iload_n 3, 1) := by decide +kernel
theorem dX0_fogWeight_5 : decode cX0_fogWeight 5 = .ok (.aload_n 1, 1) := by decide +kernel
theorem dX0_fogWeight_6 : decode cX0_fogWeight 6 = .ok (.getfield 53, 3) := by decide +kernel
theorem dX0_fogWeight_9 : decode cX0_fogWeight 9 = .ok (.if_icmp .ge 67, 3) := by decide +kernel
theorem dX0_fogWeight_12 : decode cX0_fogWeight 12 = .ok (.iload_n 2, 1) := by decide +kernel
theorem dX0_fogWeight_13 : decode cX0_fogWeight 13 = .ok (.ifCond .le 63, 3) := by decide +kernel
theorem dX0_fogWeight_16 : decode cX0_fogWeight 16 = .ok (.aload_n 1, 1) := by decide +kernel
theorem dX0_fogWeight_17 : decode cX0_fogWeight 17 = .ok (.getfield 58, 3) := by decide +kernel
theorem dX0_fogWeight_20 : decode cX0_fogWeight 20 = .ok (.iload_n 3, 1) := by decide +kernel
theorem dX0_fogWeight_21 : decode cX0_fogWeight 21 = .ok (.aaload, 1) := by decide +kernel
theorem dX0_fogWeight_22 : decode cX0_fogWeight 22 = .ok (.astore 4, 2) := by decide +kernel
theorem dX0_fogWeight_24 : decode cX0_fogWeight 24 = .ok (.iload_n 2, 1) := by decide +kernel
theorem dX0_fogWeight_25 : decode cX0_fogWeight 25 = .ok (.iconst 2, 1) := by decide +kernel
theorem dX0_fogWeight_26 : decode cX0_fogWeight 26 = .ok (.aload_n 0, 1) := by decide +kernel
theorem dX0_fogWeight_27 : decode cX0_fogWeight 27 = .ok (.aload_n 1, 1) := by decide +kernel
theorem dX0_fogWeight_28 : decode cX0_fogWeight 28 = .ok (.iload_n 3, 1) := by decide +kernel
theorem dX0_fogWeight_29 : decode cX0_fogWeight 29 = .ok (.invokevirtual 73, 3) := by decide +kernel
theorem dX0_fogWeight_32 : decode cX0_fogWeight 32 = .ok (.invokestatic 77, 3) := by decide +kernel
theorem dX0_fogWeight_35 : decode cX0_fogWeight 35 = .ok (.imul, 1) := by decide +kernel
theorem dX0_fogWeight_36 : decode cX0_fogWeight 36 = .ok (.aload_n 0, 1) := by decide +kernel
theorem dX0_fogWeight_37 : decode cX0_fogWeight 37 = .ok (.aload_n 1, 1) := by decide +kernel
theorem dX0_fogWeight_38 : decode cX0_fogWeight 38 = .ok (.iload_n 3, 1) := by decide +kernel
theorem dX0_fogWeight_39 : decode cX0_fogWeight 39 = .ok (.aload 4, 2) := by decide +kernel
theorem dX0_fogWeight_41 : decode cX0_fogWeight 41 = .ok (.iconst (-1), 1) := by decide +kernel
theorem dX0_fogWeight_42 : decode cX0_fogWeight 42 = .ok (.invokevirtual 81, 3) := by decide +kernel
theorem dX0_fogWeight_45 : decode cX0_fogWeight 45 = .ok (.invokevirtual 69, 3) := by decide +kernel
theorem dX0_fogWeight_48 : decode cX0_fogWeight 48 = .ok (.invokestatic 77, 3) := by decide +kernel
theorem dX0_fogWeight_51 : decode cX0_fogWeight 51 = .ok (.iadd, 1) := by decide +kernel
theorem dX0_fogWeight_52 : decode cX0_fogWeight 52 = .ok (.aload_n 0, 1) := by decide +kernel
theorem dX0_fogWeight_53 : decode cX0_fogWeight 53 = .ok (.aload_n 1, 1) := by decide +kernel
theorem dX0_fogWeight_54 : decode cX0_fogWeight 54 = .ok (.iload_n 3, 1) := by decide +kernel
theorem dX0_fogWeight_55 : decode cX0_fogWeight 55 = .ok (.aload 4, 2) := by decide +kernel
theorem dX0_fogWeight_57 : decode cX0_fogWeight 57 = .ok (.iconst 1, 1) := by decide +kernel
theorem dX0_fogWeight_58 : decode cX0_fogWeight 58 = .ok (.invokevirtual 81, 3) := by decide +kernel
theorem dX0_fogWeight_61 : decode cX0_fogWeight 61 = .ok (.invokevirtual 69, 3) := by decide +kernel
theorem dX0_fogWeight_64 : decode cX0_fogWeight 64 = .ok (.invokestatic 77, 3) := by decide +kernel
theorem dX0_fogWeight_67 : decode cX0_fogWeight 67 = .ok (.iadd, 1) := by decide +kernel
theorem dX0_fogWeight_68 : decode cX0_fogWeight 68 = .ok (.imul, 1) := by decide +kernel
theorem dX0_fogWeight_69 : decode cX0_fogWeight 69 = .ok (.istore_n 2, 1) := by decide +kernel
theorem dX0_fogWeight_70 : decode cX0_fogWeight 70 = .ok (.iinc 3 1, 3) := by decide +kernel
theorem dX0_fogWeight_73 : decode cX0_fogWeight 73 = .ok (.goto (-69), 3) := by decide +kernel
theorem dX0_fogWeight_76 : decode cX0_fogWeight 76 = .ok (.iload_n 2, 1) := by decide +kernel
theorem dX0_fogWeight_77 : decode cX0_fogWeight 77 = .ok (.ireturn, 1) := by decide +kernel
theorem dX0_fewestStones_0 : decode cX0_fewestStones 0 = .ok (.aload_n 1, 1) := by decide +kernel
theorem dX0_fewestStones_1 : decode cX0_fewestStones 1 = .ok (.getfield 58, 3) := by decide +kernel
theorem dX0_fewestStones_4 : decode cX0_fewestStones 4 = .ok (.iload_n 2, 1) := by decide +kernel
theorem dX0_fewestStones_5 : decode cX0_fewestStones 5 = .ok (.aaload, 1) := by decide +kernel
theorem dX0_fewestStones_6 : decode cX0_fewestStones 6 = .ok (.astore_n 3, 1) := by decide +kernel
theorem dX0_fewestStones_7 : decode cX0_fewestStones 7 = .ok (.iconst 0, 1) := by decide +kernel
theorem dX0_fewestStones_8 : decode cX0_fewestStones 8 = .ok (.istore 4, 2) := by decide +kernel
theorem dX0_fewestStones_10 : decode cX0_fewestStones 10 = .ok (.iload 4, 2) := by decide +kernel
theorem dX0_fewestStones_12 : decode cX0_fewestStones 12 = .ok (.aload_n 3, 1) := by decide +kernel
theorem dX0_fewestStones_13 : decode cX0_fewestStones 13 = .ok (.getfield 85, 3) := by decide +kernel
theorem dX0_fewestStones_16 : decode cX0_fewestStones 16 = .ok (.if_icmp .ge 28, 3) := by decide +kernel
theorem dX0_fewestStones_19 : decode cX0_fewestStones 19 = .ok (.aload_n 0, 1) := by decide +kernel
theorem dX0_fewestStones_20 : decode cX0_fewestStones 20 = .ok (.aload_n 1, 1) := by decide +kernel
theorem dX0_fewestStones_21 : decode cX0_fewestStones 21 = .ok (.iload_n 2, 1) := by decide +kernel
theorem dX0_fewestStones_22 : decode cX0_fewestStones 22 = .ok (.aload_n 3, 1) := by decide +kernel
theorem dX0_fewestStones_23 : decode cX0_fewestStones 23 = .ok (.iload 4, 2) := by decide +kernel
theorem dX0_fewestStones_25 : decode cX0_fewestStones 25 = .ok (.ineg, 1) := by decide +kernel
theorem dX0_fewestStones_26 : decode cX0_fewestStones 26 = .ok (.invokevirtual 81, 3) := by decide +kernel
theorem dX0_fewestStones_29 : decode cX0_fewestStones 29 = .ok (.invokevirtual 69, 3) := by decide +kernel
theorem dX0_fewestStones_32 : decode cX0_fewestStones 32 = .ok (.ifCond .eq 6, 3) := by decide +kernel
theorem dX0_fewestStones_35 : decode cX0_fewestStones 35 = .ok (.iload 4, 2) := by decide +kernel
theorem dX0_fewestStones_37 : decode cX0_fewestStones 37 = .ok (.ireturn, 1) := by decide +kernel
theorem dX0_fewestStones_38 : decode cX0_fewestStones 38 = .ok (.iinc 4 1, 3) := by decide +kernel
theorem dX0_fewestStones_41 : decode cX0_fewestStones 41 = .ok (.goto (-31), 3) := by decide +kernel
theorem dX0_fewestStones_44 : decode cX0_fewestStones 44 = .ok (.bipush (-4), 2) := by decide +kernel
theorem dX0_fewestStones_46 : decode cX0_fewestStones 46 = .ok (.ireturn, 1) := by decide +kernel
theorem dX1_init_0 : decode cX1_init 0 = .ok (.aload_n 0, 1) := by decide +kernel
theorem dX1_init_1 : decode cX1_init 1 = .ok (.invokespecial 3, 3) := by decide +kernel
theorem dX1_init_4 : decode cX1_init 4 = .ok (.aload_n 0, 1) := by decide +kernel
theorem dX1_init_5 : decode cX1_init 5 = .ok (.bipush 24, 2) := by decide +kernel
theorem dX1_init_7 : decode cX1_init 7 = .ok (.newarray .int, 2) := by decide +kernel
theorem dX1_init_9 : decode cX1_init 9 = .ok (.putfield 9, 3) := by decide +kernel
theorem dX1_init_12 : decode cX1_init 12 = .ok (.aload_n 0, 1) := by decide +kernel
theorem dX1_init_13 : decode cX1_init 13 = .ok (.bipush 60, 2) := by decide +kernel
theorem dX1_init_15 : decode cX1_init 15 = .ok (.newarray .int, 2) := by decide +kernel
theorem dX1_init_17 : decode cX1_init 17 = .ok (.putfield 15, 3) := by decide +kernel
theorem dX1_init_20 : decode cX1_init 20 = .ok (.return_, 1) := by decide +kernel
theorem dX1_survey_0 : decode cX1_survey 0 = .ok (.aload_n 0, 1) := by decide +kernel
theorem dX1_survey_1 : decode cX1_survey 1 = .ok (.iconst 0, 1) := by decide +kernel
theorem dX1_survey_2 : decode cX1_survey 2 = .ok (.putfield 18, 3) := by decide +kernel
theorem dX1_survey_5 : decode cX1_survey 5 = .ok (.aload_n 0, 1) := by decide +kernel
theorem dX1_survey_6 : decode cX1_survey 6 = .ok (.bipush (-4), 2) := by decide +kernel
theorem dX1_survey_8 : decode cX1_survey 8 = .ok (.putfield 22, 3) := by decide +kernel
theorem dX1_survey_11 : decode cX1_survey 11 = .ok (.aload_n 0, 1) := by decide +kernel
theorem dX1_survey_12 : decode cX1_survey 12 = .ok (.getfield 15, 3) := by decide +kernel
theorem dX1_survey_15 : decode cX1_survey 15 = .ok (.iconst 0, 1) := by decide +kernel
theorem dX1_survey_16 : decode cX1_survey 16 = .ok (.invokestatic 25, 3) := by decide +kernel
theorem dX1_survey_19 : decode cX1_survey 19 = .ok (.iconst 2, 1) := by decide +kernel
theorem dX1_survey_20 : decode cX1_survey 20 = .ok (.istore 4, 2) := by decide +kernel
theorem dX1_survey_22 : decode cX1_survey 22 = .ok (.iload 4, 2) := by decide +kernel
theorem dX1_survey_24 : decode cX1_survey 24 = .ok (.bipush 24, 2) := by decide +kernel
theorem dX1_survey_26 : decode cX1_survey 26 = .ok (.if_icmp .gt 92, 3) := by decide +kernel
theorem dX1_survey_29 : decode cX1_survey 29 = .ok (.aload_n 0, 1) := by decide +kernel
theorem dX1_survey_30 : decode cX1_survey 30 = .ok (.getfield 9, 3) := by decide +kernel
theorem dX1_survey_33 : decode cX1_survey 33 = .ok (.iconst 0, 1) := by decide +kernel
theorem dX1_survey_34 : decode cX1_survey 34 = .ok (.invokestatic 25, 3) := by decide +kernel
theorem dX1_survey_37 : decode cX1_survey 37 = .ok (.aload_n 0, 1) := by decide +kernel
theorem dX1_survey_38 : decode cX1_survey 38 = .ok (.aload_n 1, 1) := by decide +kernel
theorem dX1_survey_39 : decode cX1_survey 39 = .ok (.iload 4, 2) := by decide +kernel
theorem dX1_survey_41 : decode cX1_survey 41 = .ok (.invokevirtual 31, 3) := by decide +kernel
theorem dX1_survey_44 : decode cX1_survey 44 = .ok (.iconst 1, 1) := by decide +kernel
theorem dX1_survey_45 : decode cX1_survey 45 = .ok (.istore 5, 2) := by decide +kernel
theorem dX1_survey_47 : decode cX1_survey 47 = .ok (.iload 5, 2) := by decide +kernel
theorem dX1_survey_49 : decode cX1_survey 49 = .ok (.iload 4, 2) := by decide +kernel
theorem dX1_survey_51 : decode cX1_survey 51 = .ok (.if_icmp .ge 17, 3) := by decide +kernel
theorem dX1_survey_54 : decode cX1_survey 54 = .ok (.aload_n 0, 1) := by decide +kernel
theorem dX1_survey_55 : decode cX1_survey 55 = .ok (.iload 4, 2) := by decide +kernel
theorem dX1_survey_57 : decode cX1_survey 57 = .ok (.iload 5, 2) := by decide +kernel
theorem dX1_survey_59 : decode cX1_survey 59 = .ok (.invokevirtual 35, 3) := by decide +kernel
theorem dX1_survey_62 : decode cX1_survey 62 = .ok (.iinc 5 1, 3) := by decide +kernel
theorem dX1_survey_65 : decode cX1_survey 65 = .ok (.goto (-18), 3) := by decide +kernel
theorem dX1_survey_68 : decode cX1_survey 68 = .ok (.iconst 0, 1) := by decide +kernel
theorem dX1_survey_69 : decode cX1_survey 69 = .ok (.istore 5, 2) := by decide +kernel
theorem dX1_survey_71 : decode cX1_survey 71 = .ok (.iload 5, 2) := by decide +kernel
theorem dX1_survey_73 : decode cX1_survey 73 = .ok (.iload_n 3, 1) := by decide +kernel
theorem dX1_survey_74 : decode cX1_survey 74 = .ok (.if_icmp .ge 38, 3) := by decide +kernel
theorem dX1_survey_77 : decode cX1_survey 77 = .ok (.iload 5, 2) := by decide +kernel
theorem dX1_survey_79 : decode cX1_survey 79 = .ok (.bipush 60, 2) := by decide +kernel
theorem dX1_survey_81 : decode cX1_survey 81 = .ok (.if_icmp .ge 31, 3) := by decide +kernel
theorem dX1_survey_84 : decode cX1_survey 84 = .ok (.aload_n 0, 1) := by decide +kernel
theorem dX1_survey_85 : decode cX1_survey 85 = .ok (.getfield 15, 3) := by decide +kernel
theorem dX1_survey_88 : decode cX1_survey 88 = .ok (.iload 5, 2) := by decide +kernel
theorem dX1_survey_90 : decode cX1_survey 90 = .ok (.dup2, 1) := by decide +kernel
theorem dX1_survey_91 : decode cX1_survey 91 = .ok (.iaload, 1) := by decide +kernel
theorem dX1_survey_92 : decode cX1_survey 92 = .ok (.aload_n 0, 1) := by decide +kernel
theorem dX1_survey_93 : decode cX1_survey 93 = .ok (.getfield 9, 3) := by decide +kernel
theorem dX1_survey_96 : decode cX1_survey 96 = .ok (.iload_n 2, 1) := by decide +kernel
theorem dX1_survey_97 : decode cX1_survey 97 = .ok (.iload 5, 2) := by decide +kernel
theorem dX1_survey_99 : decode cX1_survey 99 = .ok (.iadd, 1) := by decide +kernel
theorem dX1_survey_100 : decode cX1_survey 100 = .ok (.iload 4, 2) := by decide +kernel
theorem dX1_survey_102 : decode cX1_survey 102 = .ok (.irem, 1) := by decide +kernel
theorem dX1_survey_103 : decode cX1_survey 103 = .ok (.iaload, 1) := by decide +kernel
theorem dX1_survey_104 : decode cX1_survey 104 = .ok (.iadd, 1) := by decide +kernel
theorem dX1_survey_105 : decode cX1_survey 105 = .ok (.iastore, 1) := by decide +kernel
theorem dX1_survey_106 : decode cX1_survey 106 = .ok (.iinc 5 1, 3) := by decide +kernel
theorem dX1_survey_109 : decode cX1_survey 109 = .ok (.goto (-38), 3) := by decide +kernel
theorem dX1_survey_112 : decode cX1_survey 112 = .ok (.iinc 4 1, 3) := by decide +kernel
theorem dX1_survey_115 : decode cX1_survey 115 = .ok (.goto (-93), 3) := by decide +kernel
theorem dX1_survey_118 : decode cX1_survey 118 = .ok (.return_, 1) := by decide +kernel
theorem dX1_fold_0 : decode cX1_fold 0 = .ok (.aload_n 0, 1) := by decide +kernel
theorem dX1_fold_1 : decode cX1_fold 1 = .ok (.iconst 0, 1) := by decide +kernel
theorem dX1_fold_2 : decode cX1_fold 2 = .ok (.putfield 39, 3) := by decide +kernel
theorem dX1_fold_5 : decode cX1_fold 5 = .ok (.aload_n 0, 1) := by decide +kernel
theorem dX1_fold_6 : decode cX1_fold 6 = .ok (.iconst 0, 1) := by decide +kernel
theorem dX1_fold_7 : decode cX1_fold 7 = .ok (.putfield 42, 3) := by decide +kernel
theorem dX1_fold_10 : decode cX1_fold 10 = .ok (.iconst 0, 1) := by decide +kernel
theorem dX1_fold_11 : decode cX1_fold 11 = .ok (.istore_n 3, 1) := by decide +kernel
theorem dX1_fold_12 : decode cX1_fold 12 = .ok (.iload_n 3, 1) := by decide +kernel
theorem dX1_fold_13 : decode cX1_fold 13 = .ok (.aload_n 1, 1) := by decide +kernel
theorem dX1_fold_14 : decode cX1_fold 14 = .ok (.getfield 45, 3) := by decide +kernel
theorem dX1_fold_17 : decode cX1_fold 17 = .ok (.if_icmp .ge 75, 3) := by decide +kernel
theorem dX1_fold_20 : decode cX1_fold 20 = .ok (.iload_n 2, 1) := by decide +kernel
theorem dX1_fold_21 : decode cX1_fold 21 = .ok (.ifCond .le 71, 3) := by decide +kernel
theorem dX1_fold_24 : decode cX1_fold 24 = .ok (.iconst 1, 1) := by decide +kernel
theorem dX1_fold_25 : decode cX1_fold 25 = .ok (.aload_n 1, 1) := by decide +kernel
theorem dX1_fold_26 : decode cX1_fold 26 = .ok (.getfield 50, 3) := by decide +kernel
theorem dX1_fold_29 : decode cX1_fold 29 = .ok (.iload_n 3, 1) := by decide +kernel
theorem dX1_fold_30 : decode cX1_fold 30 = .ok (.iaload, 1) := by decide +kernel
theorem dX1_fold_31 : decode cX1_fold 31 = .ok (.iload_n 2, 1) := by decide +kernel
theorem dX1_fold_32 : decode cX1_fold 32 = .ok (.irem, 1) := by decide +kernel
theorem dX1_fold_33 : decode cX1_fold 33 = .ok (.ishl, 1) := by decide +kernel
theorem dX1_fold_34 : decode cX1_fold 34 = .ok (.istore 4, 2) := by decide +kernel
theorem dX1_fold_36 : decode cX1_fold 36 = .ok (.aload_n 0, 1) := by decide +kernel
theorem dX1_fold_37 : decode cX1_fold 37 = .ok (.dup, 1) := by decide +kernel
theorem dX1_fold_38 : decode cX1_fold 38 = .ok (.getfield 39, 3) := by decide +kernel
theorem dX1_fold_41 : decode cX1_fold 41 = .ok (.aload_n 1, 1) := by decide +kernel
theorem dX1_fold_42 : decode cX1_fold 42 = .ok (.getfield 53, 3) := by decide +kernel
theorem dX1_fold_45 : decode cX1_fold 45 = .ok (.iload_n 3, 1) := by decide +kernel
theorem dX1_fold_46 : decode cX1_fold 46 = .ok (.iaload, 1) := by decide +kernel
theorem dX1_fold_47 : decode cX1_fold 47 = .ok (.iconst 1, 1) := by decide +kernel
theorem dX1_fold_48 : decode cX1_fold 48 = .ok (.if_icmp .ne 8, 3) := by decide +kernel
theorem dX1_fold_51 : decode cX1_fold 51 = .ok (.iload 4, 2) := by decide +kernel
theorem dX1_fold_53 : decode cX1_fold 53 = .ok (.goto 4, 3) := by decide +kernel
theorem dX1_fold_56 : decode cX1_fold 56 = .ok (.iconst 0, 1) := by decide +kernel
theorem dX1_fold_57 : decode cX1_fold 57 = .ok (.ior, 1) := by decide +kernel
theorem dX1_fold_58 : decode cX1_fold 58 = .ok (.putfield 39, 3) := by decide +kernel
theorem dX1_fold_61 : decode cX1_fold 61 = .ok (.aload_n 0, 1) := by decide +kernel
theorem dX1_fold_62 : decode cX1_fold 62 = .ok (.dup, 1) := by decide +kernel
theorem dX1_fold_63 : decode cX1_fold 63 = .ok (.getfield 42, 3) := by decide +kernel
theorem dX1_fold_66 : decode cX1_fold 66 = .ok (.aload_n 1, 1) := by decide +kernel
theorem dX1_fold_67 : decode cX1_fold 67 = .ok (.getfield 53, 3) := by decide +kernel
theorem dX1_fold_70 : decode cX1_fold 70 = .ok (.iload_n 3, 1) := by decide +kernel
theorem dX1_fold_71 : decode cX1_fold 71 = .ok (.iaload, 1) := by decide +kernel
theorem dX1_fold_72 : decode cX1_fold 72 = .ok (.iconst 1, 1) := by decide +kernel
theorem dX1_fold_73 : decode cX1_fold 73 = .ok (.if_icmp .ne 7, 3) := by decide +kernel
theorem dX1_fold_76 : decode cX1_fold 76 = .ok (.iconst 0, 1) := by decide +kernel
theorem dX1_fold_77 : decode cX1_fold 77 = .ok (.goto 5, 3) := by decide +kernel
theorem dX1_fold_80 : decode cX1_fold 80 = .ok (.iload 4, 2) := by decide +kernel
theorem dX1_fold_82 : decode cX1_fold 82 = .ok (.ior, 1) := by decide +kernel
theorem dX1_fold_83 : decode cX1_fold 83 = .ok (.putfield 42, 3) := by decide +kernel
theorem dX1_fold_86 : decode cX1_fold 86 = .ok (.iinc 3 1, 3) := by decide +kernel
theorem dX1_fold_89 : decode cX1_fold 89 = .ok (.goto (-77), 3) := by decide +kernel
theorem dX1_fold_92 : decode cX1_fold 92 = .ok (.return_, 1) := by decide +kernel
theorem dX1_surveyPhases_0 : decode cX1_surveyPhases 0 = .ok (.iconst 1, 1) := by decide +kernel
theorem dX1_surveyPhases_1 : decode cX1_surveyPhases 1 = .ok (.iload_n 1, 1) := by decide +kernel
theorem dX1_surveyPhases_2 : decode cX1_surveyPhases 2 = .ok (.ishl, 1) := by decide +kernel
theorem dX1_surveyPhases_3 : decode cX1_surveyPhases 3 = .ok (.iconst 1, 1) := by decide +kernel
theorem dX1_surveyPhases_4 : decode cX1_surveyPhases 4 = .ok (.isub, 1) := by decide +kernel
theorem dX1_surveyPhases_5 : decode cX1_surveyPhases 5 = .ok (.istore_n 3, 1) := by decide +kernel
theorem dX1_surveyPhases_6 : decode cX1_surveyPhases 6 = .ok (.iconst 1, 1) := by decide +kernel
theorem dX1_surveyPhases_7 : decode cX1_surveyPhases 7 = .ok (.iload_n 2, 1) := by decide +kernel
theorem dX1_surveyPhases_8 : decode cX1_surveyPhases 8 = .ok (.ishl, 1) := by decide +kernel
theorem dX1_surveyPhases_9 : decode cX1_surveyPhases 9 = .ok (.iconst 1, 1) := by decide +kernel
theorem dX1_surveyPhases_10 : decode cX1_surveyPhases 10 = .ok (.isub, 1) := by decide +kernel
theorem dX1_surveyPhases_11 : decode cX1_surveyPhases 11 = .ok (.istore 4, 2) := by decide +kernel
theorem dX1_surveyPhases_13 : decode cX1_surveyPhases 13 = .ok (.iconst 0, 1) := by decide +kernel
theorem dX1_surveyPhases_14 : decode cX1_surveyPhases 14 = .ok (.istore 5, 2) := by decide +kernel
theorem dX1_surveyPhases_16 : decode cX1_surveyPhases 16 = .ok (.iload 5, 2) := by decide +kernel
theorem dX1_surveyPhases_18 : decode cX1_surveyPhases 18 = .ok (.iload_n 1, 1) := by decide +kernel
theorem dX1_surveyPhases_19 : decode cX1_surveyPhases 19 = .ok (.if_icmp .ge 124, 3) := by decide +kernel
theorem dX1_surveyPhases_22 : decode cX1_surveyPhases 22 = .ok (.iload 4, 2) := by decide +kernel
theorem dX1_surveyPhases_24 : decode cX1_surveyPhases 24 = .ok (.iload 5, 2) := by decide +kernel
theorem dX1_surveyPhases_26 : decode cX1_surveyPhases 26 = .ok (.ishr, 1) := by decide +kernel
theorem dX1_surveyPhases_27 : decode cX1_surveyPhases 27 = .ok (.iload 4, 2) := by decide +kernel
theorem dX1_surveyPhases_29 : decode cX1_surveyPhases 29 = .ok (.iload_n 1, 1) := by decide +kernel
theorem dX1_surveyPhases_30 : decode cX1_surveyPhases 30 = .ok (.iload 5, 2) := by decide +kernel
theorem dX1_surveyPhases_32 : decode cX1_surveyPhases 32 = .ok (.isub, 1) := by decide +kernel
theorem dX1_surveyPhases_33 : decode cX1_surveyPhases 33 = .ok (.ishl, 1) := by decide +kernel
theorem dX1_surveyPhases_34 : decode cX1_surveyPhases 34 = .ok (.ior, 1) := by decide +kernel
theorem dX1_surveyPhases_35 : decode cX1_surveyPhases 35 = .ok (.iload_n 3, 1) := by decide +kernel
theorem dX1_surveyPhases_36 : decode cX1_surveyPhases 36 = .ok (.iand, 1) := by decide +kernel
theorem dX1_surveyPhases_37 : decode cX1_surveyPhases 37 = .ok (.istore 6, 2) := by decide +kernel
theorem dX1_surveyPhases_39 : decode cX1_surveyPhases 39 = .ok (.aload_n 0, 1) := by decide +kernel
theorem dX1_surveyPhases_40 : decode cX1_surveyPhases 40 = .ok (.getfield 39, 3) := by decide +kernel
theorem dX1_surveyPhases_43 : decode cX1_surveyPhases 43 = .ok (.iload 6, 2) := by decide +kernel
theorem dX1_surveyPhases_45 : decode cX1_surveyPhases 45 = .ok (.iconst (-1), 1) := by decide +kernel
theorem dX1_surveyPhases_46 : decode cX1_surveyPhases 46 = .ok (.ixor, 1) := by decide +kernel
theorem dX1_surveyPhases_47 : decode cX1_surveyPhases 47 = .ok (.iand, 1) := by decide +kernel
theorem dX1_surveyPhases_48 : decode cX1_surveyPhases 48 = .ok (.ifCond .ne 89, 3) := by decide +kernel
theorem dX1_surveyPhases_51 : decode cX1_surveyPhases 51 = .ok (.aload_n 0, 1) := by decide +kernel
theorem dX1_surveyPhases_52 : decode cX1_surveyPhases 52 = .ok (.getfield 42, 3) := by decide +kernel
theorem dX1_surveyPhases_55 : decode cX1_surveyPhases 55 = .ok (.iload 6, 2) := by decide +kernel
theorem dX1_surveyPhases_57 : decode cX1_surveyPhases 57 = .ok (.iand, 1) := by decide +kernel
theorem dX1_surveyPhases_58 : decode cX1_surveyPhases 58 = .ok (.ifCond .eq 6, 3) := by decide +kernel
theorem dX1_surveyPhases_61 : decode cX1_surveyPhases 61 = .ok (.goto 76, 3) := by decide +kernel
theorem dX1_surveyPhases_64 : decode cX1_surveyPhases 64 = .ok (.aload_n 0, 1) := by decide +kernel
theorem dX1_surveyPhases_65 : decode cX1_surveyPhases 65 = .ok (.aload_n 0, 1) := by decide +kernel
theorem dX1_surveyPhases_66 : decode cX1_surveyPhases 66 = .ok (.getfield 18, 3) := by decide +kernel
theorem dX1_surveyPhases_69 : decode cX1_surveyPhases 69 = .ok (.ifCond .ne 19, 3) := by decide +kernel
theorem dX1_surveyPhases_72 : decode cX1_surveyPhases 72 = .ok (.sipush 10000, 3) := by decide +kernel
theorem dX1_surveyPhases_75 : decode cX1_surveyPhases 75 = .ok (.iload_n 1, 1) := by decide +kernel
theorem dX1_surveyPhases_76 : decode cX1_surveyPhases 76 = .ok (.imul, 1) := by decide +kernel
theorem dX1_surveyPhases_77 : decode cX1_surveyPhases 77 = .ok (.bipush 100, 2) := by decide +kernel
theorem dX1_surveyPhases_79 : decode cX1_surveyPhases 79 = .ok (.iload_n 2, 1) := by decide +kernel
theorem dX1_surveyPhases_80 : decode cX1_surveyPhases 80 = .ok (.imul, 1) := by decide +kernel
theorem dX1_surveyPhases_81 : decode cX1_surveyPhases 81 = .ok (.iadd, 1) := by decide +kernel
theorem dX1_surveyPhases_82 : decode cX1_surveyPhases 82 = .ok (.iload 5, 2) := by decide +kernel
theorem dX1_surveyPhases_84 : decode cX1_surveyPhases 84 = .ok (.iadd, 1) := by decide +kernel
theorem dX1_surveyPhases_85 : decode cX1_surveyPhases 85 = .ok (.goto 7, 3) := by decide +kernel
theorem dX1_surveyPhases_88 : decode cX1_surveyPhases 88 = .ok (.aload_n 0, 1) := by decide +kernel
theorem dX1_surveyPhases_89 : decode cX1_surveyPhases 89 = .ok (.getfield 22, 3) := by decide +kernel
theorem dX1_surveyPhases_92 : decode cX1_surveyPhases 92 = .ok (.putfield 22, 3) := by decide +kernel
theorem dX1_surveyPhases_95 : decode cX1_surveyPhases 95 = .ok (.aload_n 0, 1) := by decide +kernel
theorem dX1_surveyPhases_96 : decode cX1_surveyPhases 96 = .ok (.dup, 1) := by decide +kernel
theorem dX1_surveyPhases_97 : decode cX1_surveyPhases 97 = .ok (.getfield 18, 3) := by decide +kernel
theorem dX1_surveyPhases_100 : decode cX1_surveyPhases 100 = .ok (.iconst 1, 1) := by decide +kernel
theorem dX1_surveyPhases_101 : decode cX1_surveyPhases 101 = .ok (.iadd, 1) := by decide +kernel
theorem dX1_surveyPhases_102 : decode cX1_surveyPhases 102 = .ok (.putfield 18, 3) := by decide +kernel
theorem dX1_surveyPhases_105 : decode cX1_surveyPhases 105 = .ok (.iconst 0, 1) := by decide +kernel
theorem dX1_surveyPhases_106 : decode cX1_surveyPhases 106 = .ok (.istore 7, 2) := by decide +kernel
theorem dX1_surveyPhases_108 : decode cX1_surveyPhases 108 = .ok (.iload 7, 2) := by decide +kernel
theorem dX1_surveyPhases_110 : decode cX1_surveyPhases 110 = .ok (.iload_n 1, 1) := by decide +kernel
theorem dX1_surveyPhases_111 : decode cX1_surveyPhases 111 = .ok (.if_icmp .ge 26, 3) := by decide +kernel
theorem dX1_surveyPhases_114 : decode cX1_surveyPhases 114 = .ok (.aload_n 0, 1) := by decide +kernel
theorem dX1_surveyPhases_115 : decode cX1_surveyPhases 115 = .ok (.getfield 9, 3) := by decide +kernel
theorem dX1_surveyPhases_118 : decode cX1_surveyPhases 118 = .ok (.iload 7, 2) := by decide +kernel
theorem dX1_surveyPhases_120 : decode cX1_surveyPhases 120 = .ok (.dup2, 1) := by decide +kernel
theorem dX1_surveyPhases_121 : decode cX1_surveyPhases 121 = .ok (.iaload, 1) := by decide +kernel
theorem dX1_surveyPhases_122 : decode cX1_surveyPhases 122 = .ok (.iload 6, 2) := by decide +kernel
theorem dX1_surveyPhases_124 : decode cX1_surveyPhases 124 = .ok (.iload 7, 2) := by decide +kernel
theorem dX1_surveyPhases_126 : decode cX1_surveyPhases 126 = .ok (.ishr, 1) := by decide +kernel
theorem dX1_surveyPhases_127 : decode cX1_surveyPhases 127 = .ok (.iconst 1, 1) := by decide +kernel
theorem dX1_surveyPhases_128 : decode cX1_surveyPhases 128 = .ok (.iand, 1) := by decide +kernel
theorem dX1_surveyPhases_129 : decode cX1_surveyPhases 129 = .ok (.iadd, 1) := by decide +kernel
theorem dX1_surveyPhases_130 : decode cX1_surveyPhases 130 = .ok (.iastore, 1) := by decide +kernel
theorem dX1_surveyPhases_131 : decode cX1_surveyPhases 131 = .ok (.iinc 7 1, 3) := by decide +kernel
theorem dX1_surveyPhases_134 : decode cX1_surveyPhases 134 = .ok (.goto (-26), 3) := by decide +kernel
theorem dX1_surveyPhases_137 : decode cX1_surveyPhases 137 = .ok (.iinc 5 1, 3) := by decide +kernel
theorem dX1_surveyPhases_140 : decode cX1_surveyPhases 140 = .ok (.goto (-124), 3) := by decide +kernel
theorem dX1_surveyPhases_143 : decode cX1_surveyPhases 143 = .ok (.return_, 1) := by decide +kernel
theorem dX1_leftAtWorst_0 : decode cX1_leftAtWorst 0 = .ok (.aload_n 0, 1) := by decide +kernel
theorem dX1_leftAtWorst_1 : decode cX1_leftAtWorst 1 = .ok (.getfield 15, 3) := by decide +kernel
theorem dX1_leftAtWorst_4 : decode cX1_leftAtWorst 4 = .ok (.iload_n 1, 1) := by decide +kernel
theorem dX1_leftAtWorst_5 : decode cX1_leftAtWorst 5 = .ok (.iaload, 1) := by decide +kernel
theorem dX1_leftAtWorst_6 : decode cX1_leftAtWorst 6 = .ok (.aload_n 0, 1) := by decide +kernel
theorem dX1_leftAtWorst_7 : decode cX1_leftAtWorst 7 = .ok (.getfield 18, 3) := by decide +kernel
theorem dX1_leftAtWorst_10 : decode cX1_leftAtWorst 10 = .ok (.aload_n 0, 1) := by decide +kernel
theorem dX1_leftAtWorst_11 : decode cX1_leftAtWorst 11 = .ok (.getfield 15, 3) := by decide +kernel
theorem dX1_leftAtWorst_14 : decode cX1_leftAtWorst 14 = .ok (.iload_n 1, 1) := by decide +kernel
theorem dX1_leftAtWorst_15 : decode cX1_leftAtWorst 15 = .ok (.iaload, 1) := by decide +kernel
theorem dX1_leftAtWorst_16 : decode cX1_leftAtWorst 16 = .ok (.isub, 1) := by decide +kernel
theorem dX1_leftAtWorst_17 : decode cX1_leftAtWorst 17 = .ok (.invokestatic 56, 3) := by decide +kernel
theorem dX1_leftAtWorst_20 : decode cX1_leftAtWorst 20 = .ok (.ireturn, 1) := by decide +kernel
theorem dX2_init_0 : decode cX2_init 0 = .ok (.aload_n 0, 1) := by decide +kernel
theorem dX2_init_1 : decode cX2_init 1 = .ok (.invokespecial 3, 3) := by decide +kernel
theorem dX2_init_4 : decode cX2_init 4 = .ok (.aload_n 0, 1) := by decide +kernel
theorem dX2_init_5 : decode cX2_init 5 = .ok (.bipush 12, 2) := by decide +kernel
theorem dX2_init_7 : decode cX2_init 7 = .ok (.newarray .int, 2) := by decide +kernel
theorem dX2_init_9 : decode cX2_init 9 = .ok (.putfield 9, 3) := by decide +kernel
theorem dX2_init_12 : decode cX2_init 12 = .ok (.aload_n 0, 1) := by decide +kernel
theorem dX2_init_13 : decode cX2_init 13 = .ok (.bipush 12, 2) := by decide +kernel
theorem dX2_init_15 : decode cX2_init 15 = .ok (.newarray .int, 2) := by decide +kernel
theorem dX2_init_17 : decode cX2_init 17 = .ok (.putfield 15, 3) := by decide +kernel
theorem dX2_init_20 : decode cX2_init 20 = .ok (.return_, 1) := by decide +kernel
theorem dX2_add_0 : decode cX2_add 0 = .ok (.aload_n 0, 1) := by decide +kernel
theorem dX2_add_1 : decode cX2_add 1 = .ok (.getfield 18, 3) := by decide +kernel
theorem dX2_add_4 : decode cX2_add 4 = .ok (.bipush 12, 2) := by decide +kernel
theorem dX2_add_6 : decode cX2_add 6 = .ok (.if_icmp .lt 5, 3) := by decide +kernel
theorem dX2_add_9 : decode cX2_add 9 = .ok (.iconst 0, 1) := by decide +kernel
theorem dX2_add_10 : decode cX2_add 10 = .ok (.ireturn, 1) := by decide +kernel
theorem dX2_add_11 : decode cX2_add 11 = .ok (.aload_n 0, 1) := by decide +kernel
theorem dX2_add_12 : decode cX2_add 12 = .ok (.getfield 9, 3) := by decide +kernel
theorem dX2_add_15 : decode cX2_add 15 = .ok (.aload_n 0, 1) := by decide +kernel
theorem dX2_add_16 : decode cX2_add 16 = .ok (.getfield 18, 3) := by decide +kernel
theorem dX2_add_19 : decode cX2_add 19 = .ok (.iload_n 1, 1) := by decide +kernel
theorem dX2_add_20 : decode cX2_add 20 = .ok (.iastore, 1) := by decide +kernel
theorem dX2_add_21 : decode cX2_add 21 = .ok (.aload_n 0, 1) := by decide +kernel
theorem dX2_add_22 : decode cX2_add 22 = .ok (.getfield 15, 3) := by decide +kernel
theorem dX2_add_25 : decode cX2_add 25 = .ok (.aload_n 0, 1) := by decide +kernel
theorem dX2_add_26 : decode cX2_add 26 = .ok (.getfield 18, 3) := by decide +kernel
theorem dX2_add_29 : decode cX2_add 29 = .ok (.iload_n 2, 1) := by decide +kernel
theorem dX2_add_30 : decode cX2_add 30 = .ok (.iastore, 1) := by decide +kernel
theorem dX2_add_31 : decode cX2_add 31 = .ok (.aload_n 0, 1) := by decide +kernel
theorem dX2_add_32 : decode cX2_add 32 = .ok (.dup, 1) := by decide +kernel
theorem dX2_add_33 : decode cX2_add 33 = .ok (.getfield 18, 3) := by decide +kernel
theorem dX2_add_36 : decode cX2_add 36 = .ok (.iconst 1, 1) := by decide +kernel
theorem dX2_add_37 : decode cX2_add 37 = .ok (.iadd, 1) := by decide +kernel
theorem dX2_add_38 : decode cX2_add 38 = .ok (.putfield 18, 3) := by decide +kernel
theorem dX2_add_41 : decode cX2_add 41 = .ok (.iconst 1, 1) := by decide +kernel
theorem dX2_add_42 : decode cX2_add 42 = .ok (.ireturn, 1) := by decide +kernel
theorem dX2_take_0 : decode cX2_take 0 = .ok (.iconst 0, 1) := by decide +kernel
theorem dX2_take_1 : decode cX2_take 1 = .ok (.istore_n 2, 1) := by decide +kernel
theorem dX2_take_2 : decode cX2_take 2 = .ok (.iload_n 2, 1) := by decide +kernel
theorem dX2_take_3 : decode cX2_take 3 = .ok (.bipush 12, 2) := by decide +kernel
theorem dX2_take_5 : decode cX2_take 5 = .ok (.if_icmp .ge 33, 3) := by decide +kernel
theorem dX2_take_8 : decode cX2_take 8 = .ok (.aload_n 0, 1) := by decide +kernel
theorem dX2_take_9 : decode cX2_take 9 = .ok (.getfield 9, 3) := by decide +kernel
theorem dX2_take_12 : decode cX2_take 12 = .ok (.iload_n 2, 1) := by decide +kernel
theorem dX2_take_13 : decode cX2_take 13 = .ok (.aload_n 1, 1) := by decide +kernel
theorem dX2_take_14 : decode cX2_take 14 = .ok (.getfield 9, 3) := by decide +kernel
theorem dX2_take_17 : decode cX2_take 17 = .ok (.iload_n 2, 1) := by decide +kernel
theorem dX2_take_18 : decode cX2_take 18 = .ok (.iaload, 1) := by decide +kernel
theorem dX2_take_19 : decode cX2_take 19 = .ok (.iastore, 1) := by decide +kernel
theorem dX2_take_20 : decode cX2_take 20 = .ok (.aload_n 0, 1) := by decide +kernel
theorem dX2_take_21 : decode cX2_take 21 = .ok (.getfield 15, 3) := by decide +kernel
theorem dX2_take_24 : decode cX2_take 24 = .ok (.iload_n 2, 1) := by decide +kernel
theorem dX2_take_25 : decode cX2_take 25 = .ok (.aload_n 1, 1) := by decide +kernel
theorem dX2_take_26 : decode cX2_take 26 = .ok (.getfield 15, 3) := by decide +kernel
theorem dX2_take_29 : decode cX2_take 29 = .ok (.iload_n 2, 1) := by decide +kernel
theorem dX2_take_30 : decode cX2_take 30 = .ok (.iaload, 1) := by decide +kernel
theorem dX2_take_31 : decode cX2_take 31 = .ok (.iastore, 1) := by decide +kernel
theorem dX2_take_32 : decode cX2_take 32 = .ok (.iinc 2 1, 3) := by decide +kernel
theorem dX2_take_35 : decode cX2_take 35 = .ok (.goto (-33), 3) := by decide +kernel
theorem dX2_take_38 : decode cX2_take 38 = .ok (.aload_n 0, 1) := by decide +kernel
theorem dX2_take_39 : decode cX2_take 39 = .ok (.aload_n 1, 1) := by decide +kernel
theorem dX2_take_40 : decode cX2_take 40 = .ok (.getfield 18, 3) := by decide +kernel
theorem dX2_take_43 : decode cX2_take 43 = .ok (.putfield 18, 3) := by decide +kernel
theorem dX2_take_46 : decode cX2_take 46 = .ok (.return_, 1) := by decide +kernel
theorem dX3_init_0 : decode cX3_init 0 = .ok (.aload_n 0, 1) := by decide +kernel
theorem dX3_init_1 : decode cX3_init 1 = .ok (.invokespecial 3, 3) := by decide +kernel
theorem dX3_init_4 : decode cX3_init 4 = .ok (.aload_n 0, 1) := by decide +kernel
theorem dX3_init_5 : decode cX3_init 5 = .ok (.iconst 1, 1) := by decide +kernel
theorem dX3_init_6 : decode cX3_init 6 = .ok (.putfield 9, 3) := by decide +kernel
theorem dX3_init_9 : decode cX3_init 9 = .ok (.aload_n 0, 1) := by decide +kernel
theorem dX3_init_10 : decode cX3_init 10 = .ok (.iconst 2, 1) := by decide +kernel
theorem dX3_init_11 : decode cX3_init 11 = .ok (.putfield 15, 3) := by decide +kernel
theorem dX3_init_14 : decode cX3_init 14 = .ok (.aload_n 0, 1) := by decide +kernel
theorem dX3_init_15 : decode cX3_init 15 = .ok (.iconst 1, 1) := by decide +kernel
theorem dX3_init_16 : decode cX3_init 16 = .ok (.putfield 18, 3) := by decide +kernel
theorem dX3_init_19 : decode cX3_init 19 = .ok (.return_, 1) := by decide +kernel
theorem dX3_become_0 : decode cX3_become 0 = .ok (.aload_n 0, 1) := by decide +kernel
theorem dX3_become_1 : decode cX3_become 1 = .ok (.iload_n 1, 1) := by decide +kernel
theorem dX3_become_2 : decode cX3_become 2 = .ok (.putfield 21, 3) := by decide +kernel
theorem dX3_become_5 : decode cX3_become 5 = .ok (.aload_n 0, 1) := by decide +kernel
theorem dX3_become_6 : decode cX3_become 6 = .ok (.iload_n 2, 1) := by decide +kernel
theorem dX3_become_7 : decode cX3_become 7 = .ok (.putfield 9, 3) := by decide +kernel
theorem dX3_become_10 : decode cX3_become 10 = .ok (.aload_n 0, 1) := by decide +kernel
theorem dX3_become_11 : decode cX3_become 11 = .ok (.iload_n 3, 1) := by decide +kernel
theorem dX3_become_12 : decode cX3_become 12 = .ok (.iconst 2, 1) := by decide +kernel
theorem dX3_become_13 : decode cX3_become 13 = .ok (.if_icmp .ge 7, 3) := by decide +kernel
theorem dX3_become_16 : decode cX3_become 16 = .ok (.iconst 2, 1) := by decide +kernel
theorem dX3_become_17 : decode cX3_become 17 = .ok (.goto 4, 3) := by decide +kernel
theorem dX3_become_20 : decode cX3_become 20 = .ok (.iload_n 3, 1) := by decide +kernel
theorem dX3_become_21 : decode cX3_become 21 = .ok (.putfield 15, 3) := by decide +kernel
theorem dX3_become_24 : decode cX3_become 24 = .ok (.aload_n 0, 1) := by decide +kernel
theorem dX3_become_25 : decode cX3_become 25 = .ok (.iload 4, 2) := by decide +kernel
theorem dX3_become_27 : decode cX3_become 27 = .ok (.putfield 18, 3) := by decide +kernel
theorem dX3_become_30 : decode cX3_become 30 = .ok (.aload_n 0, 1) := by decide +kernel
theorem dX3_become_31 : decode cX3_become 31 = .ok (.iconst 0, 1) := by decide +kernel
theorem dX3_become_32 : decode cX3_become 32 = .ok (.putfield 24, 3) := by decide +kernel
theorem dX3_become_35 : decode cX3_become 35 = .ok (.return_, 1) := by decide +kernel
theorem dX3_take_0 : decode cX3_take 0 = .ok (.aload_n 0, 1) := by decide +kernel
theorem dX3_take_1 : decode cX3_take 1 = .ok (.aload_n 1, 1) := by decide +kernel
theorem dX3_take_2 : decode cX3_take 2 = .ok (.getfield 21, 3) := by decide +kernel
theorem dX3_take_5 : decode cX3_take 5 = .ok (.aload_n 1, 1) := by decide +kernel
theorem dX3_take_6 : decode cX3_take 6 = .ok (.getfield 9, 3) := by decide +kernel
theorem dX3_take_9 : decode cX3_take 9 = .ok (.aload_n 1, 1) := by decide +kernel
theorem dX3_take_10 : decode cX3_take 10 = .ok (.getfield 15, 3) := by decide +kernel
theorem dX3_take_13 : decode cX3_take 13 = .ok (.aload_n 1, 1) := by decide +kernel
theorem dX3_take_14 : decode cX3_take 14 = .ok (.getfield 18, 3) := by decide +kernel
theorem dX3_take_17 : decode cX3_take 17 = .ok (.invokevirtual 27, 3) := by decide +kernel
theorem dX3_take_20 : decode cX3_take 20 = .ok (.aload_n 0, 1) := by decide +kernel
theorem dX3_take_21 : decode cX3_take 21 = .ok (.aload_n 1, 1) := by decide +kernel
theorem dX3_take_22 : decode cX3_take 22 = .ok (.getfield 24, 3) := by decide +kernel
theorem dX3_take_25 : decode cX3_take 25 = .ok (.putfield 24, 3) := by decide +kernel
theorem dX3_take_28 : decode cX3_take 28 = .ok (.return_, 1) := by decide +kernel
theorem dX3_isOpenNow_0 : decode cX3_isOpenNow 0 = .ok (.aload_n 0, 1) := by decide +kernel
theorem dX3_isOpenNow_1 : decode cX3_isOpenNow 1 = .ok (.iload_n 1, 1) := by decide +kernel
theorem dX3_isOpenNow_2 : decode cX3_isOpenNow 2 = .ok (.aload_n 0, 1) := by decide +kernel
theorem dX3_isOpenNow_3 : decode cX3_isOpenNow 3 = .ok (.getfield 24, 3) := by decide +kernel
theorem dX3_isOpenNow_6 : decode cX3_isOpenNow 6 = .ok (.invokevirtual 31, 3) := by decide +kernel
theorem dX3_isOpenNow_9 : decode cX3_isOpenNow 9 = .ok (.ireturn, 1) := by decide +kernel
theorem dX3_isOpenAt_0 : decode cX3_isOpenAt 0 = .ok (.aload_n 0, 1) := by decide +kernel
theorem dX3_isOpenAt_1 : decode cX3_isOpenAt 1 = .ok (.getfield 21, 3) := by decide +kernel
theorem dX3_isOpenAt_4 : decode cX3_isOpenAt 4 = .ok (.tableswitch 102 1 3 #[28, 37, 68], 28) := by decide +kernel
theorem dX3_isOpenAt_32 : decode cX3_isOpenAt 32 = .ok (.aload_n 0, 1) := by decide +kernel
theorem dX3_isOpenAt_33 : decode cX3_isOpenAt 33 = .ok (.iload_n 1, 1) := by decide +kernel
theorem dX3_isOpenAt_34 : decode cX3_isOpenAt 34 = .ok (.iconst 2, 1) := by decide +kernel
theorem dX3_isOpenAt_35 : decode cX3_isOpenAt 35 = .ok (.idiv, 1) := by decide +kernel
theorem dX3_isOpenAt_36 : decode cX3_isOpenAt 36 = .ok (.iload_n 2, 1) := by decide +kernel
theorem dX3_isOpenAt_37 : decode cX3_isOpenAt 37 = .ok (.invokevirtual 35, 3) := by decide +kernel
theorem dX3_isOpenAt_40 : decode cX3_isOpenAt 40 = .ok (.ireturn, 1) := by decide +kernel
theorem dX3_isOpenAt_41 : decode cX3_isOpenAt 41 = .ok (.aload_n 0, 1) := by decide +kernel
theorem dX3_isOpenAt_42 : decode cX3_isOpenAt 42 = .ok (.iload_n 1, 1) := by decide +kernel
theorem dX3_isOpenAt_43 : decode cX3_isOpenAt 43 = .ok (.iload_n 2, 1) := by decide +kernel
theorem dX3_isOpenAt_44 : decode cX3_isOpenAt 44 = .ok (.invokevirtual 35, 3) := by decide +kernel
theorem dX3_isOpenAt_47 : decode cX3_isOpenAt 47 = .ok (.ifCond .ne 19, 3) := by decide +kernel
theorem dX3_isOpenAt_50 : decode cX3_isOpenAt 50 = .ok (.aload_n 0, 1) := by decide +kernel
theorem dX3_isOpenAt_51 : decode cX3_isOpenAt 51 = .ok (.iload_n 1, 1) := by decide +kernel
theorem dX3_isOpenAt_52 : decode cX3_isOpenAt 52 = .ok (.aload_n 0, 1) := by decide +kernel
theorem dX3_isOpenAt_53 : decode cX3_isOpenAt 53 = .ok (.getfield 15, 3) := by decide +kernel
theorem dX3_isOpenAt_56 : decode cX3_isOpenAt 56 = .ok (.iconst 2, 1) := by decide +kernel
theorem dX3_isOpenAt_57 : decode cX3_isOpenAt 57 = .ok (.idiv, 1) := by decide +kernel
theorem dX3_isOpenAt_58 : decode cX3_isOpenAt 58 = .ok (.iadd, 1) := by decide +kernel
theorem dX3_isOpenAt_59 : decode cX3_isOpenAt 59 = .ok (.iload_n 2, 1) := by decide +kernel
theorem dX3_isOpenAt_60 : decode cX3_isOpenAt 60 = .ok (.invokevirtual 35, 3) := by decide +kernel
theorem dX3_isOpenAt_63 : decode cX3_isOpenAt 63 = .ok (.ifCond .eq 7, 3) := by decide +kernel
theorem dX3_isOpenAt_66 : decode cX3_isOpenAt 66 = .ok (.iconst 1, 1) := by decide +kernel
theorem dX3_isOpenAt_67 : decode cX3_isOpenAt 67 = .ok (.goto 4, 3) := by decide +kernel
theorem dX3_isOpenAt_70 : decode cX3_isOpenAt 70 = .ok (.iconst 0, 1) := by decide +kernel
theorem dX3_isOpenAt_71 : decode cX3_isOpenAt 71 = .ok (.ireturn, 1) := by decide +kernel
theorem dX3_isOpenAt_72 : decode cX3_isOpenAt 72 = .ok (.iload_n 1, 1) := by decide +kernel
theorem dX3_isOpenAt_73 : decode cX3_isOpenAt 73 = .ok (.ifCond .le 31, 3) := by decide +kernel
theorem dX3_isOpenAt_76 : decode cX3_isOpenAt 76 = .ok (.aload_n 0, 1) := by decide +kernel
theorem dX3_isOpenAt_77 : decode cX3_isOpenAt 77 = .ok (.iload_n 1, 1) := by decide +kernel
theorem dX3_isOpenAt_78 : decode cX3_isOpenAt 78 = .ok (.iconst 2, 1) := by decide +kernel
theorem dX3_isOpenAt_79 : decode cX3_isOpenAt 79 = .ok (.idiv, 1) := by decide +kernel
theorem dX3_isOpenAt_80 : decode cX3_isOpenAt 80 = .ok (.iload_n 2, 1) := by decide +kernel
theorem dX3_isOpenAt_81 : decode cX3_isOpenAt 81 = .ok (.invokevirtual 35, 3) := by decide +kernel
theorem dX3_isOpenAt_84 : decode cX3_isOpenAt 84 = .ok (.ifCond .eq 20, 3) := by decide +kernel
theorem dX3_isOpenAt_87 : decode cX3_isOpenAt 87 = .ok (.aload_n 0, 1) := by decide +kernel
theorem dX3_isOpenAt_88 : decode cX3_isOpenAt 88 = .ok (.iload_n 1, 1) := by decide +kernel
theorem dX3_isOpenAt_89 : decode cX3_isOpenAt 89 = .ok (.iconst 1, 1) := by decide +kernel
theorem dX3_isOpenAt_90 : decode cX3_isOpenAt 90 = .ok (.isub, 1) := by decide +kernel
theorem dX3_isOpenAt_91 : decode cX3_isOpenAt 91 = .ok (.iconst 2, 1) := by decide +kernel
theorem dX3_isOpenAt_92 : decode cX3_isOpenAt 92 = .ok (.idiv, 1) := by decide +kernel
theorem dX3_isOpenAt_93 : decode cX3_isOpenAt 93 = .ok (.iload_n 2, 1) := by decide +kernel
theorem dX3_isOpenAt_94 : decode cX3_isOpenAt 94 = .ok (.invokevirtual 35, 3) := by decide +kernel
theorem dX3_isOpenAt_97 : decode cX3_isOpenAt 97 = .ok (.ifCond .eq 7, 3) := by decide +kernel
theorem dX3_isOpenAt_100 : decode cX3_isOpenAt 100 = .ok (.iconst 1, 1) := by decide +kernel
theorem dX3_isOpenAt_101 : decode cX3_isOpenAt 101 = .ok (.goto 4, 3) := by decide +kernel
theorem dX3_isOpenAt_104 : decode cX3_isOpenAt 104 = .ok (.iconst 0, 1) := by decide +kernel
theorem dX3_isOpenAt_105 : decode cX3_isOpenAt 105 = .ok (.ireturn, 1) := by decide +kernel
theorem dX3_isOpenAt_106 : decode cX3_isOpenAt 106 = .ok (.aload_n 0, 1) := by decide +kernel
theorem dX3_isOpenAt_107 : decode cX3_isOpenAt 107 = .ok (.iload_n 1, 1) := by decide +kernel
theorem dX3_isOpenAt_108 : decode cX3_isOpenAt 108 = .ok (.iload_n 2, 1) := by decide +kernel
theorem dX3_isOpenAt_109 : decode cX3_isOpenAt 109 = .ok (.invokevirtual 35, 3) := by decide +kernel
theorem dX3_isOpenAt_112 : decode cX3_isOpenAt 112 = .ok (.ireturn, 1) := by decide +kernel
theorem dX3_isPlainOpen_0 : decode cX3_isPlainOpen 0 = .ok (.aload_n 0, 1) := by decide +kernel
theorem dX3_isPlainOpen_1 : decode cX3_isPlainOpen 1 = .ok (.getfield 15, 3) := by decide +kernel
theorem dX3_isPlainOpen_4 : decode cX3_isPlainOpen 4 = .ok (.ifCond .le 22, 3) := by decide +kernel
theorem dX3_isPlainOpen_7 : decode cX3_isPlainOpen 7 = .ok (.iload_n 1, 1) := by decide +kernel
theorem dX3_isPlainOpen_8 : decode cX3_isPlainOpen 8 = .ok (.iload_n 2, 1) := by decide +kernel
theorem dX3_isPlainOpen_9 : decode cX3_isPlainOpen 9 = .ok (.iadd, 1) := by decide +kernel
theorem dX3_isPlainOpen_10 : decode cX3_isPlainOpen 10 = .ok (.aload_n 0, 1) := by decide +kernel
theorem dX3_isPlainOpen_11 : decode cX3_isPlainOpen 11 = .ok (.getfield 15, 3) := by decide +kernel
theorem dX3_isPlainOpen_14 : decode cX3_isPlainOpen 14 = .ok (.irem, 1) := by decide +kernel
theorem dX3_isPlainOpen_15 : decode cX3_isPlainOpen 15 = .ok (.aload_n 0, 1) := by decide +kernel
theorem dX3_isPlainOpen_16 : decode cX3_isPlainOpen 16 = .ok (.getfield 18, 3) := by decide +kernel
theorem dX3_isPlainOpen_19 : decode cX3_isPlainOpen 19 = .ok (.if_icmp .ge 7, 3) := by decide +kernel
theorem dX3_isPlainOpen_22 : decode cX3_isPlainOpen 22 = .ok (.iconst 1, 1) := by decide +kernel
theorem dX3_isPlainOpen_23 : decode cX3_isPlainOpen 23 = .ok (.goto 4, 3) := by decide +kernel
theorem dX3_isPlainOpen_26 : decode cX3_isPlainOpen 26 = .ok (.iconst 0, 1) := by decide +kernel
theorem dX3_isPlainOpen_27 : decode cX3_isPlainOpen 27 = .ok (.ireturn, 1) := by decide +kernel
theorem dX3_firstShut_0 : decode cX3_firstShut 0 = .ok (.iload_n 1, 1) := by decide +kernel
theorem dX3_firstShut_1 : decode cX3_firstShut 1 = .ok (.istore 4, 2) := by decide +kernel
theorem dX3_firstShut_3 : decode cX3_firstShut 3 = .ok (.iload 4, 2) := by decide +kernel
theorem dX3_firstShut_5 : decode cX3_firstShut 5 = .ok (.iload_n 2, 1) := by decide +kernel
theorem dX3_firstShut_6 : decode cX3_firstShut 6 = .ok (.if_icmp .ge 22, 3) := by decide +kernel
theorem dX3_firstShut_9 : decode cX3_firstShut 9 = .ok (.aload_n 0, 1) := by decide +kernel
theorem dX3_firstShut_10 : decode cX3_firstShut 10 = .ok (.iload 4, 2) := by decide +kernel
theorem dX3_firstShut_12 : decode cX3_firstShut 12 = .ok (.iload_n 3, 1) := by decide +kernel
theorem dX3_firstShut_13 : decode cX3_firstShut 13 = .ok (.invokevirtual 31, 3) := by decide +kernel
theorem dX3_firstShut_16 : decode cX3_firstShut 16 = .ok (.ifCond .ne 6, 3) := by decide +kernel
theorem dX3_firstShut_19 : decode cX3_firstShut 19 = .ok (.iload 4, 2) := by decide +kernel
theorem dX3_firstShut_21 : decode cX3_firstShut 21 = .ok (.ireturn, 1) := by decide +kernel
theorem dX3_firstShut_22 : decode cX3_firstShut 22 = .ok (.iinc 4 1, 3) := by decide +kernel
theorem dX3_firstShut_25 : decode cX3_firstShut 25 = .ok (.goto (-22), 3) := by decide +kernel
theorem dX3_firstShut_28 : decode cX3_firstShut 28 = .ok (.iload_n 2, 1) := by decide +kernel
theorem dX3_firstShut_29 : decode cX3_firstShut 29 = .ok (.ireturn, 1) := by decide +kernel
theorem dX3_phaseBehind_0 : decode cX3_phaseBehind 0 = .ok (.aload_n 0, 1) := by decide +kernel
theorem dX3_phaseBehind_1 : decode cX3_phaseBehind 1 = .ok (.getfield 15, 3) := by decide +kernel
theorem dX3_phaseBehind_4 : decode cX3_phaseBehind 4 = .ok (.ifCond .le 22, 3) := by decide +kernel
theorem dX3_phaseBehind_7 : decode cX3_phaseBehind 7 = .ok (.aload_n 0, 1) := by decide +kernel
theorem dX3_phaseBehind_8 : decode cX3_phaseBehind 8 = .ok (.getfield 24, 3) := by decide +kernel
theorem dX3_phaseBehind_11 : decode cX3_phaseBehind 11 = .ok (.aload_n 0, 1) := by decide +kernel
theorem dX3_phaseBehind_12 : decode cX3_phaseBehind 12 = .ok (.getfield 15, 3) := by decide +kernel
theorem dX3_phaseBehind_15 : decode cX3_phaseBehind 15 = .ok (.iadd, 1) := by decide +kernel
theorem dX3_phaseBehind_16 : decode cX3_phaseBehind 16 = .ok (.iload_n 1, 1) := by decide +kernel
theorem dX3_phaseBehind_17 : decode cX3_phaseBehind 17 = .ok (.iadd, 1) := by decide +kernel
theorem dX3_phaseBehind_18 : decode cX3_phaseBehind 18 = .ok (.aload_n 0, 1) := by decide +kernel
theorem dX3_phaseBehind_19 : decode cX3_phaseBehind 19 = .ok (.getfield 15, 3) := by decide +kernel
theorem dX3_phaseBehind_22 : decode cX3_phaseBehind 22 = .ok (.irem, 1) := by decide +kernel
theorem dX3_phaseBehind_23 : decode cX3_phaseBehind 23 = .ok (.goto 7, 3) := by decide +kernel
theorem dX3_phaseBehind_26 : decode cX3_phaseBehind 26 = .ok (.aload_n 0, 1) := by decide +kernel
theorem dX3_phaseBehind_27 : decode cX3_phaseBehind 27 = .ok (.getfield 24, 3) := by decide +kernel
theorem dX3_phaseBehind_30 : decode cX3_phaseBehind 30 = .ok (.ireturn, 1) := by decide +kernel
theorem dX4_init_0 : decode cX4_init 0 = .ok (.aload_n 0, 1) := by decide +kernel
theorem dX4_init_1 : decode cX4_init 1 = .ok (.invokespecial 3, 3) := by decide +kernel
theorem dX4_init_4 : decode cX4_init 4 = .ok (.aload_n 0, 1) := by decide +kernel
theorem dX4_init_5 : decode cX4_init 5 = .ok (.bipush 16, 2) := by decide +kernel
theorem dX4_init_7 : decode cX4_init 7 = .ok (.newarray .long, 2) := by decide +kernel
theorem dX4_init_9 : decode cX4_init 9 = .ok (.putfield 9, 3) := by decide +kernel
theorem dX4_init_12 : decode cX4_init 12 = .ok (.return_, 1) := by decide +kernel
theorem dX4_begin_0 : decode cX4_begin 0 = .ok (.aload_n 0, 1) := by decide +kernel
theorem dX4_begin_1 : decode cX4_begin 1 = .ok (.iconst 1, 1) := by decide +kernel
theorem dX4_begin_2 : decode cX4_begin 2 = .ok (.putfield 15, 3) := by decide +kernel
theorem dX4_begin_5 : decode cX4_begin 5 = .ok (.aload_n 0, 1) := by decide +kernel
theorem dX4_begin_6 : decode cX4_begin 6 = .ok (.iload_n 1, 1) := by decide +kernel
theorem dX4_begin_7 : decode cX4_begin 7 = .ok (.putfield 19, 3) := by decide +kernel
theorem dX4_begin_10 : decode cX4_begin 10 = .ok (.aload_n 0, 1) := by decide +kernel
theorem dX4_begin_11 : decode cX4_begin 11 = .ok (.iload_n 2, 1) := by decide +kernel
theorem dX4_begin_12 : decode cX4_begin 12 = .ok (.putfield 23, 3) := by decide +kernel
theorem dX4_begin_15 : decode cX4_begin 15 = .ok (.aload_n 0, 1) := by decide +kernel
theorem dX4_begin_16 : decode cX4_begin 16 = .ok (.getfield 9, 3) := by decide +kernel
theorem dX4_begin_19 : decode cX4_begin 19 = .ok (.lconst 0, 1) := by decide +kernel
theorem dX4_begin_20 : decode cX4_begin 20 = .ok (.invokestatic 26, 3) := by decide +kernel
theorem dX4_begin_23 : decode cX4_begin 23 = .ok (.return_, 1) := by decide +kernel
theorem dX4_hasItems_0 : decode cX4_hasItems 0 = .ok (.iload_n 1, 1) := by decide +kernel
theorem dX4_hasItems_1 : decode cX4_hasItems 1 = .ok (.ifCond .lt 21, 3) := by decide +kernel
theorem dX4_hasItems_4 : decode cX4_hasItems 4 = .ok (.iload_n 2, 1) := by decide +kernel
theorem dX4_hasItems_5 : decode cX4_hasItems 5 = .ok (.ifCond .lt 17, 3) := by decide +kernel
theorem dX4_hasItems_8 : decode cX4_hasItems 8 = .ok (.iload_n 1, 1) := by decide +kernel
theorem dX4_hasItems_9 : decode cX4_hasItems 9 = .ok (.aload_n 0, 1) := by decide +kernel
theorem dX4_hasItems_10 : decode cX4_hasItems 10 = .ok (.getfield 23, 3) := by decide +kernel
theorem dX4_hasItems_13 : decode cX4_hasItems 13 = .ok (.iload_n 2, 1) := by decide +kernel
theorem dX4_hasItems_14 : decode cX4_hasItems 14 = .ok (.isub, 1) := by decide +kernel
theorem dX4_hasItems_15 : decode cX4_hasItems 15 = .ok (.if_icmp .gt 7, 3) := by decide +kernel
theorem dX4_hasItems_18 : decode cX4_hasItems 18 = .ok (.iconst 1, 1) := by decide +kernel
theorem dX4_hasItems_19 : decode cX4_hasItems 19 = .ok (.goto 4, 3) := by decide +kernel
theorem dX4_hasItems_22 : decode cX4_hasItems 22 = .ok (.iconst 0, 1) := by decide +kernel
theorem dX4_hasItems_23 : decode cX4_hasItems 23 = .ok (.ireturn, 1) := by decide +kernel
theorem dX4_refusal_0 : decode cX4_refusal 0 = .ok (.aload_n 0, 1) := by decide +kernel
theorem dX4_refusal_1 : decode cX4_refusal 1 = .ok (.getfield 15, 3) := by decide +kernel
theorem dX4_refusal_4 : decode cX4_refusal 4 = .ok (.ifCond .ne 6, 3) := by decide +kernel
theorem dX4_refusal_7 : decode cX4_refusal 7 = .ok (.bipush (-11), 2) := by decide +kernel
theorem dX4_refusal_9 : decode cX4_refusal 9 = .ok (.ireturn, 1) := by decide +kernel
theorem dX4_refusal_10 : decode cX4_refusal 10 = .ok (.aload_n 0, 1) := by decide +kernel
theorem dX4_refusal_11 : decode cX4_refusal 11 = .ok (.getfield 19, 3) := by decide +kernel
theorem dX4_refusal_14 : decode cX4_refusal 14 = .ok (.iload_n 1, 1) := by decide +kernel
theorem dX4_refusal_15 : decode cX4_refusal 15 = .ok (.if_icmp .eq 6, 3) := by decide +kernel
theorem dX4_refusal_18 : decode cX4_refusal 18 = .ok (.bipush (-12), 2) := by decide +kernel
theorem dX4_refusal_20 : decode cX4_refusal 20 = .ok (.ireturn, 1) := by decide +kernel
theorem dX4_refusal_21 : decode cX4_refusal 21 = .ok (.aload_n 0, 1) := by decide +kernel
theorem dX4_refusal_22 : decode cX4_refusal 22 = .ok (.iload_n 2, 1) := by decide +kernel
theorem dX4_refusal_23 : decode cX4_refusal 23 = .ok (.iload_n 3, 1) := by decide +kernel
theorem dX4_refusal_24 : decode cX4_refusal 24 = .ok (.invokevirtual 32, 3) := by decide +kernel
theorem dX4_refusal_27 : decode cX4_refusal 27 = .ok (.ifCond .eq 7, 3) := by decide +kernel
theorem dX4_refusal_30 : decode cX4_refusal 30 = .ok (.iconst 0, 1) := by decide +kernel
theorem dX4_refusal_31 : decode cX4_refusal 31 = .ok (.goto 5, 3) := by decide +kernel
theorem dX4_refusal_34 : decode cX4_refusal 34 = .ok (.bipush (-13), 2) := by decide +kernel
theorem dX4_refusal_36 : decode cX4_refusal 36 = .ok (.ireturn, 1) := by decide +kernel
theorem dX5_init_0 : decode cX5_init 0 = .ok (.aload_n 0, 1) := by decide +kernel
theorem dX5_init_1 : decode cX5_init 1 = .ok (.invokespecial 3, 3) := by decide +kernel
theorem dX5_init_4 : decode cX5_init 4 = .ok (.aload_n 0, 1) := by decide +kernel
theorem dX5_init_5 : decode cX5_init 5 = .ok (.bipush 7, 2) := by decide +kernel
theorem dX5_init_7 : decode cX5_init 7 = .ok (.sipush 346, 3) := by decide +kernel
theorem dX5_init_10 : decode cX5_init 10 = .ok (.multianewarray 9 2, 4) := by decide +kernel
theorem dX5_init_14 : decode cX5_init 14 = .ok (.putfield 11, 3) := by decide +kernel
theorem dX5_init_17 : decode cX5_init 17 = .ok (.aload_n 0, 1) := by decide +kernel
theorem dX5_init_18 : decode cX5_init 18 = .ok (.sipush 347, 3) := by decide +kernel
theorem dX5_init_21 : decode cX5_init 21 = .ok (.newarray .int, 2) := by decide +kernel
theorem dX5_init_23 : decode cX5_init 23 = .ok (.putfield 16, 3) := by decide +kernel
theorem dX5_init_26 : decode cX5_init 26 = .ok (.aload_n 0, 1) := by decide +kernel
theorem dX5_init_27 : decode cX5_init 27 = .ok (.bipush 6, 2) := by decide +kernel
theorem dX5_init_29 : decode cX5_init 29 = .ok (.newarray .int, 2) := by decide +kernel
theorem dX5_init_31 : decode cX5_init 31 = .ok (.putfield 20, 3) := by decide +kernel
theorem dX5_init_34 : decode cX5_init 34 = .ok (.return_, 1) := by decide +kernel
theorem dX5_findSoonest_0 : decode cX5_findSoonest 0 = .ok (.aload_n 1, 1) := by decide +kernel
theorem dX5_findSoonest_1 : decode cX5_findSoonest 1 = .ok (.getfield 23, 3) := by decide +kernel
theorem dX5_findSoonest_4 : decode cX5_findSoonest 4 = .ok (.istore 4, 2) := by decide +kernel
theorem dX5_findSoonest_6 : decode cX5_findSoonest 6 = .ok (.iconst 0, 1) := by decide +kernel
theorem dX5_findSoonest_7 : decode cX5_findSoonest 7 = .ok (.istore 5, 2) := by decide +kernel
theorem dX5_findSoonest_9 : decode cX5_findSoonest 9 = .ok (.iload 5, 2) := by decide +kernel
theorem dX5_findSoonest_11 : decode cX5_findSoonest 11 = .ok (.sipush 346, 3) := by decide +kernel
theorem dX5_findSoonest_14 : decode cX5_findSoonest 14 = .ok (.if_icmp .ge 21, 3) := by decide +kernel
theorem dX5_findSoonest_17 : decode cX5_findSoonest 17 = .ok (.aload_n 0, 1) := by decide +kernel
theorem dX5_findSoonest_18 : decode cX5_findSoonest 18 = .ok (.getfield 11, 3) := by decide +kernel
theorem dX5_findSoonest_21 : decode cX5_findSoonest 21 = .ok (.iload 4, 2) := by decide +kernel
theorem dX5_findSoonest_23 : decode cX5_findSoonest 23 = .ok (.aaload, 1) := by decide +kernel
theorem dX5_findSoonest_24 : decode cX5_findSoonest 24 = .ok (.iload 5, 2) := by decide +kernel
theorem dX5_findSoonest_26 : decode cX5_findSoonest 26 = .ok (.iload 5, 2) := by decide +kernel
theorem dX5_findSoonest_28 : decode cX5_findSoonest 28 = .ok (.iastore, 1) := by decide +kernel
theorem dX5_findSoonest_29 : decode cX5_findSoonest 29 = .ok (.iinc 5 1, 3) := by decide +kernel
theorem dX5_findSoonest_32 : decode cX5_findSoonest 32 = .ok (.goto (-23), 3) := by decide +kernel
theorem dX5_findSoonest_35 : decode cX5_findSoonest 35 = .ok (.iload 4, 2) := by decide +kernel
theorem dX5_findSoonest_37 : decode cX5_findSoonest 37 = .ok (.iconst 1, 1) := by decide +kernel
theorem dX5_findSoonest_38 : decode cX5_findSoonest 38 = .ok (.isub, 1) := by decide +kernel
theorem dX5_findSoonest_39 : decode cX5_findSoonest 39 = .ok (.istore 5, 2) := by decide +kernel
theorem dX5_findSoonest_41 : decode cX5_findSoonest 41 = .ok (.iload 5, 2) := by decide +kernel
theorem dX5_findSoonest_43 : decode cX5_findSoonest 43 = .ok (.ifCond .lt 78, 3) := by decide +kernel
theorem dX5_findSoonest_46 : decode cX5_findSoonest 46 = .ok (.bipush 100, 2) := by decide +kernel
theorem dX5_findSoonest_48 : decode cX5_findSoonest 48 = .ok (.iload 5, 2) := by decide +kernel
theorem dX5_findSoonest_50 : decode cX5_findSoonest 50 = .ok (.bipush 41, 2) := by decide +kernel
theorem dX5_findSoonest_52 : decode cX5_findSoonest 52 = .ok (.imul, 1) := by decide +kernel
theorem dX5_findSoonest_53 : decode cX5_findSoonest 53 = .ok (.iadd, 1) := by decide +kernel
theorem dX5_findSoonest_54 : decode cX5_findSoonest 54 = .ok (.istore 6, 2) := by decide +kernel
theorem dX5_findSoonest_56 : decode cX5_findSoonest 56 = .ok (.aload_n 0, 1) := by decide +kernel
theorem dX5_findSoonest_57 : decode cX5_findSoonest 57 = .ok (.aload_n 1, 1) := by decide +kernel
theorem dX5_findSoonest_58 : decode cX5_findSoonest 58 = .ok (.getfield 29, 3) := by decide +kernel
theorem dX5_findSoonest_61 : decode cX5_findSoonest 61 = .ok (.iload 5, 2) := by decide +kernel
theorem dX5_findSoonest_63 : decode cX5_findSoonest 63 = .ok (.aaload, 1) := by decide +kernel
theorem dX5_findSoonest_64 : decode cX5_findSoonest 64 = .ok (.iload_n 3, 1) := by decide +kernel
theorem dX5_findSoonest_65 : decode cX5_findSoonest 65 = .ok (.iload 6, 2) := by decide +kernel
theorem dX5_findSoonest_67 : decode cX5_findSoonest 67 = .ok (.bipush 41, 2) := by decide +kernel
theorem dX5_findSoonest_69 : decode cX5_findSoonest 69 = .ok (.iadd, 1) := by decide +kernel
theorem dX5_findSoonest_70 : decode cX5_findSoonest 70 = .ok (.invokevirtual 33, 3) := by decide +kernel
theorem dX5_findSoonest_73 : decode cX5_findSoonest 73 = .ok (.iconst 0, 1) := by decide +kernel
theorem dX5_findSoonest_74 : decode cX5_findSoonest 74 = .ok (.istore 7, 2) := by decide +kernel
theorem dX5_findSoonest_76 : decode cX5_findSoonest 76 = .ok (.iload 7, 2) := by decide +kernel
theorem dX5_findSoonest_78 : decode cX5_findSoonest 78 = .ok (.iload 6, 2) := by decide +kernel
theorem dX5_findSoonest_80 : decode cX5_findSoonest 80 = .ok (.if_icmp .ge 35, 3) := by decide +kernel
theorem dX5_findSoonest_83 : decode cX5_findSoonest 83 = .ok (.aload_n 0, 1) := by decide +kernel
theorem dX5_findSoonest_84 : decode cX5_findSoonest 84 = .ok (.getfield 11, 3) := by decide +kernel
theorem dX5_findSoonest_87 : decode cX5_findSoonest 87 = .ok (.iload 5, 2) := by decide +kernel
theorem dX5_findSoonest_89 : decode cX5_findSoonest 89 = .ok (.aaload, 1) := by decide +kernel
theorem dX5_findSoonest_90 : decode cX5_findSoonest 90 = .ok (.iload 7, 2) := by decide +kernel
theorem dX5_findSoonest_92 : decode cX5_findSoonest 92 = .ok (.aload_n 0, 1) := by decide +kernel
theorem dX5_findSoonest_93 : decode cX5_findSoonest 93 = .ok (.aload_n 1, 1) := by decide +kernel
theorem dX5_findSoonest_94 : decode cX5_findSoonest 94 = .ok (.getfield 29, 3) := by decide +kernel
theorem dX5_findSoonest_97 : decode cX5_findSoonest 97 = .ok (.iload 5, 2) := by decide +kernel
theorem dX5_findSoonest_99 : decode cX5_findSoonest 99 = .ok (.aaload, 1) := by decide +kernel
theorem dX5_findSoonest_100 : decode cX5_findSoonest 100 = .ok (.aload_n 2, 1) := by decide +kernel
theorem dX5_findSoonest_101 : decode cX5_findSoonest 101 = .ok (.iload 5, 2) := by decide +kernel
theorem dX5_findSoonest_103 : decode cX5_findSoonest 103 = .ok (.iload 7, 2) := by decide +kernel
theorem dX5_findSoonest_105 : decode cX5_findSoonest 105 = .ok (.invokevirtual 37, 3) := by decide +kernel
theorem dX5_findSoonest_108 : decode cX5_findSoonest 108 = .ok (.iastore, 1) := by decide +kernel
theorem dX5_findSoonest_109 : decode cX5_findSoonest 109 = .ok (.iinc 7 1, 3) := by decide +kernel
theorem dX5_findSoonest_112 : decode cX5_findSoonest 112 = .ok (.goto (-36), 3) := by decide +kernel
theorem dX5_findSoonest_115 : decode cX5_findSoonest 115 = .ok (.iinc 5 (-1), 3) := by decide +kernel
theorem dX5_findSoonest_118 : decode cX5_findSoonest 118 = .ok (.goto (-77), 3) := by decide +kernel
theorem dX5_findSoonest_121 : decode cX5_findSoonest 121 = .ok (.aload_n 0, 1) := by decide +kernel
theorem dX5_findSoonest_122 : decode cX5_findSoonest 122 = .ok (.ldc 41, 2) := by decide +kernel
theorem dX5_findSoonest_124 : decode cX5_findSoonest 124 = .ok (.putfield 42, 3) := by decide +kernel
theorem dX5_findSoonest_127 : decode cX5_findSoonest 127 = .ok (.iconst 0, 1) := by decide +kernel
theorem dX5_findSoonest_128 : decode cX5_findSoonest 128 = .ok (.istore 5, 2) := by decide +kernel
theorem dX5_findSoonest_130 : decode cX5_findSoonest 130 = .ok (.iload 5, 2) := by decide +kernel
theorem dX5_findSoonest_132 : decode cX5_findSoonest 132 = .ok (.bipush 100, 2) := by decide +kernel
theorem dX5_findSoonest_134 : decode cX5_findSoonest 134 = .ok (.if_icmp .ge 58, 3) := by decide +kernel
theorem dX5_findSoonest_137 : decode cX5_findSoonest 137 = .ok (.aload_n 0, 1) := by decide +kernel
theorem dX5_findSoonest_138 : decode cX5_findSoonest 138 = .ok (.getfield 11, 3) := by decide +kernel
theorem dX5_findSoonest_141 : decode cX5_findSoonest 141 = .ok (.iconst 0, 1) := by decide +kernel
theorem dX5_findSoonest_142 : decode cX5_findSoonest 142 = .ok (.aaload, 1) := by decide +kernel
theorem dX5_findSoonest_143 : decode cX5_findSoonest 143 = .ok (.iload 5, 2) := by decide +kernel
theorem dX5_findSoonest_145 : decode cX5_findSoonest 145 = .ok (.iaload, 1) := by decide +kernel
theorem dX5_findSoonest_146 : decode cX5_findSoonest 146 = .ok (.aload_n 0, 1) := by decide +kernel
theorem dX5_findSoonest_147 : decode cX5_findSoonest 147 = .ok (.getfield 42, 3) := by decide +kernel
theorem dX5_findSoonest_150 : decode cX5_findSoonest 150 = .ok (.if_icmp .gt 36, 3) := by decide +kernel
theorem dX5_findSoonest_153 : decode cX5_findSoonest 153 = .ok (.aload_n 0, 1) := by decide +kernel
theorem dX5_findSoonest_154 : decode cX5_findSoonest 154 = .ok (.getfield 11, 3) := by decide +kernel
theorem dX5_findSoonest_157 : decode cX5_findSoonest 157 = .ok (.iconst 0, 1) := by decide +kernel
theorem dX5_findSoonest_158 : decode cX5_findSoonest 158 = .ok (.aaload, 1) := by decide +kernel
theorem dX5_findSoonest_159 : decode cX5_findSoonest 159 = .ok (.iload 5, 2) := by decide +kernel
theorem dX5_findSoonest_161 : decode cX5_findSoonest 161 = .ok (.iaload, 1) := by decide +kernel
theorem dX5_findSoonest_162 : decode cX5_findSoonest 162 = .ok (.ldc 41, 2) := by decide +kernel
theorem dX5_findSoonest_164 : decode cX5_findSoonest 164 = .ok (.if_icmp .eq 22, 3) := by decide +kernel
theorem dX5_findSoonest_167 : decode cX5_findSoonest 167 = .ok (.aload_n 0, 1) := by decide +kernel
theorem dX5_findSoonest_168 : decode cX5_findSoonest 168 = .ok (.aload_n 0, 1) := by decide +kernel
theorem dX5_findSoonest_169 : decode cX5_findSoonest 169 = .ok (.getfield 11, 3) := by decide +kernel
theorem dX5_findSoonest_172 : decode cX5_findSoonest 172 = .ok (.iconst 0, 1) := by decide +kernel
theorem dX5_findSoonest_173 : decode cX5_findSoonest 173 = .ok (.aaload, 1) := by decide +kernel
theorem dX5_findSoonest_174 : decode cX5_findSoonest 174 = .ok (.iload 5, 2) := by decide +kernel
theorem dX5_findSoonest_176 : decode cX5_findSoonest 176 = .ok (.iaload, 1) := by decide +kernel
theorem dX5_findSoonest_177 : decode cX5_findSoonest 177 = .ok (.putfield 42, 3) := by decide +kernel
theorem dX5_findSoonest_180 : decode cX5_findSoonest 180 = .ok (.aload_n 0, 1) := by decide +kernel
theorem dX5_findSoonest_181 : decode cX5_findSoonest 181 = .ok (.iload 5, 2) := by decide +kernel
theorem dX5_findSoonest_183 : decode cX5_findSoonest 183 = .ok (.putfield 45, 3) := by decide +kernel
theorem dX5_findSoonest_186 : decode cX5_findSoonest 186 = .ok (.iinc 5 1, 3) := by decide +kernel
theorem dX5_findSoonest_189 : decode cX5_findSoonest 189 = .ok (.goto (-59), 3) := by decide +kernel
theorem dX5_findSoonest_192 : decode cX5_findSoonest 192 = .ok (.aload_n 0, 1) := by decide +kernel
theorem dX5_findSoonest_193 : decode cX5_findSoonest 193 = .ok (.getfield 42, 3) := by decide +kernel
theorem dX5_findSoonest_196 : decode cX5_findSoonest 196 = .ok (.ldc 41, 2) := by decide +kernel
theorem dX5_findSoonest_198 : decode cX5_findSoonest 198 = .ok (.if_icmp .eq 10, 3) := by decide +kernel
theorem dX5_findSoonest_201 : decode cX5_findSoonest 201 = .ok (.aload_n 0, 1) := by decide +kernel
theorem dX5_findSoonest_202 : decode cX5_findSoonest 202 = .ok (.aload_n 1, 1) := by decide +kernel
theorem dX5_findSoonest_203 : decode cX5_findSoonest 203 = .ok (.aload_n 2, 1) := by decide +kernel
theorem dX5_findSoonest_204 : decode cX5_findSoonest 204 = .ok (.iload_n 3, 1) := by decide +kernel
theorem dX5_findSoonest_205 : decode cX5_findSoonest 205 = .ok (.invokevirtual 48, 3) := by decide +kernel
theorem dX5_findSoonest_208 : decode cX5_findSoonest 208 = .ok (.return_, 1) := by decide +kernel
theorem dX5_measure_0 : decode cX5_measure 0 = .ok (.aload_n 0, 1) := by decide +kernel
theorem dX5_measure_1 : decode cX5_measure 1 = .ok (.getfield 16, 3) := by decide +kernel
theorem dX5_measure_4 : decode cX5_measure 4 = .ok (.iload_n 3, 1) := by decide +kernel
theorem dX5_measure_5 : decode cX5_measure 5 = .ok (.iconst 0, 1) := by decide +kernel
theorem dX5_measure_6 : decode cX5_measure 6 = .ok (.iastore, 1) := by decide +kernel
theorem dX5_measure_7 : decode cX5_measure 7 = .ok (.iload_n 3, 1) := by decide +kernel
theorem dX5_measure_8 : decode cX5_measure 8 = .ok (.iconst 1, 1) := by decide +kernel
theorem dX5_measure_9 : decode cX5_measure 9 = .ok (.isub, 1) := by decide +kernel
theorem dX5_measure_10 : decode cX5_measure 10 = .ok (.istore 4, 2) := by decide +kernel
theorem dX5_measure_12 : decode cX5_measure 12 = .ok (.iload 4, 2) := by decide +kernel
theorem dX5_measure_14 : decode cX5_measure 14 = .ok (.ifCond .lt 42, 3) := by decide +kernel
theorem dX5_measure_17 : decode cX5_measure 17 = .ok (.aload_n 0, 1) := by decide +kernel
theorem dX5_measure_18 : decode cX5_measure 18 = .ok (.getfield 16, 3) := by decide +kernel
theorem dX5_measure_21 : decode cX5_measure 21 = .ok (.iload 4, 2) := by decide +kernel
theorem dX5_measure_23 : decode cX5_measure 23 = .ok (.aload_n 1, 1) := by decide +kernel
theorem dX5_measure_24 : decode cX5_measure 24 = .ok (.iload_n 2, 1) := by decide +kernel
theorem dX5_measure_25 : decode cX5_measure 25 = .ok (.iload 4, 2) := by decide +kernel
theorem dX5_measure_27 : decode cX5_measure 27 = .ok (.iadd, 1) := by decide +kernel
theorem dX5_measure_28 : decode cX5_measure 28 = .ok (.invokevirtual 52, 3) := by decide +kernel
theorem dX5_measure_31 : decode cX5_measure 31 = .ok (.ifCond .eq 17, 3) := by decide +kernel
theorem dX5_measure_34 : decode cX5_measure 34 = .ok (.aload_n 0, 1) := by decide +kernel
theorem dX5_measure_35 : decode cX5_measure 35 = .ok (.getfield 16, 3) := by decide +kernel
theorem dX5_measure_38 : decode cX5_measure 38 = .ok (.iload 4, 2) := by decide +kernel
theorem dX5_measure_40 : decode cX5_measure 40 = .ok (.iconst 1, 1) := by decide +kernel
theorem dX5_measure_41 : decode cX5_measure 41 = .ok (.iadd, 1) := by decide +kernel
theorem dX5_measure_42 : decode cX5_measure 42 = .ok (.iaload, 1) := by decide +kernel
theorem dX5_measure_43 : decode cX5_measure 43 = .ok (.iconst 1, 1) := by decide +kernel
theorem dX5_measure_44 : decode cX5_measure 44 = .ok (.iadd, 1) := by decide +kernel
theorem dX5_measure_45 : decode cX5_measure 45 = .ok (.goto 4, 3) := by decide +kernel
theorem dX5_measure_48 : decode cX5_measure 48 = .ok (.iconst 0, 1) := by decide +kernel
theorem dX5_measure_49 : decode cX5_measure 49 = .ok (.iastore, 1) := by decide +kernel
theorem dX5_measure_50 : decode cX5_measure 50 = .ok (.iinc 4 (-1), 3) := by decide +kernel
theorem dX5_measure_53 : decode cX5_measure 53 = .ok (.goto (-41), 3) := by decide +kernel
theorem dX5_measure_56 : decode cX5_measure 56 = .ok (.return_, 1) := by decide +kernel
theorem dX5_behindBy_0 : decode cX5_behindBy 0 = .ok (.iload_n 3, 1) := by decide +kernel
theorem dX5_behindBy_1 : decode cX5_behindBy 1 = .ok (.aload_n 1, 1) := by decide +kernel
theorem dX5_behindBy_2 : decode cX5_behindBy 2 = .ok (.getfield 58, 3) := by decide +kernel
theorem dX5_behindBy_5 : decode cX5_behindBy 5 = .ok (.iload 4, 2) := by decide +kernel
theorem dX5_behindBy_7 : decode cX5_behindBy 7 = .ok (.invokestatic 61, 3) := by decide +kernel
theorem dX5_behindBy_10 : decode cX5_behindBy 10 = .ok (.iadd, 1) := by decide +kernel
theorem dX5_behindBy_11 : decode cX5_behindBy 11 = .ok (.istore 5, 2) := by decide +kernel
theorem dX5_behindBy_13 : decode cX5_behindBy 13 = .ok (.aload_n 2, 1) := by decide +kernel
theorem dX5_behindBy_14 : decode cX5_behindBy 14 = .ok (.invokevirtual 65, 3) := by decide +kernel
theorem dX5_behindBy_17 : decode cX5_behindBy 17 = .ok (.iload 4, 2) := by decide +kernel
theorem dX5_behindBy_19 : decode cX5_behindBy 19 = .ok (.invokestatic 61, 3) := by decide +kernel
theorem dX5_behindBy_22 : decode cX5_behindBy 22 = .ok (.istore 6, 2) := by decide +kernel
theorem dX5_behindBy_24 : decode cX5_behindBy 24 = .ok (.iload 5, 2) := by decide +kernel
theorem dX5_behindBy_26 : decode cX5_behindBy 26 = .ok (.iload 6, 2) := by decide +kernel
theorem dX5_behindBy_28 : decode cX5_behindBy 28 = .ok (.iadd, 1) := by decide +kernel
theorem dX5_behindBy_29 : decode cX5_behindBy 29 = .ok (.sipush 346, 3) := by decide +kernel
theorem dX5_behindBy_32 : decode cX5_behindBy 32 = .ok (.if_icmp .ge 23, 3) := by decide +kernel
theorem dX5_behindBy_35 : decode cX5_behindBy 35 = .ok (.aload_n 0, 1) := by decide +kernel
theorem dX5_behindBy_36 : decode cX5_behindBy 36 = .ok (.getfield 16, 3) := by decide +kernel
theorem dX5_behindBy_39 : decode cX5_behindBy 39 = .ok (.iload 5, 2) := by decide +kernel
theorem dX5_behindBy_41 : decode cX5_behindBy 41 = .ok (.iaload, 1) := by decide +kernel
theorem dX5_behindBy_42 : decode cX5_behindBy 42 = .ok (.iload 6, 2) := by decide +kernel
theorem dX5_behindBy_44 : decode cX5_behindBy 44 = .ok (.if_icmp .lt 11, 3) := by decide +kernel
theorem dX5_behindBy_47 : decode cX5_behindBy 47 = .ok (.iload 5, 2) := by decide +kernel
theorem dX5_behindBy_49 : decode cX5_behindBy 49 = .ok (.iload 6, 2) := by decide +kernel
theorem dX5_behindBy_51 : decode cX5_behindBy 51 = .ok (.iadd, 1) := by decide +kernel
theorem dX5_behindBy_52 : decode cX5_behindBy 52 = .ok (.goto 5, 3) := by decide +kernel
theorem dX5_behindBy_55 : decode cX5_behindBy 55 = .ok (.ldc 41, 2) := by decide +kernel
theorem dX5_behindBy_57 : decode cX5_behindBy 57 = .ok (.ireturn, 1) := by decide +kernel
theorem dX5_soonestEnd_0 : decode cX5_soonestEnd 0 = .ok (.ldc 41, 2) := by decide +kernel
theorem dX5_soonestEnd_2 : decode cX5_soonestEnd 2 = .ok (.istore 5, 2) := by decide +kernel
theorem dX5_soonestEnd_4 : decode cX5_soonestEnd 4 = .ok (.aload_n 2, 1) := by decide +kernel
theorem dX5_soonestEnd_5 : decode cX5_soonestEnd 5 = .ok (.invokevirtual 71, 3) := by decide +kernel
theorem dX5_soonestEnd_8 : decode cX5_soonestEnd 8 = .ok (.istore 6, 2) := by decide +kernel
theorem dX5_soonestEnd_10 : decode cX5_soonestEnd 10 = .ok (.iload 6, 2) := by decide +kernel
theorem dX5_soonestEnd_12 : decode cX5_soonestEnd 12 = .ok (.aload_n 2, 1) := by decide +kernel
theorem dX5_soonestEnd_13 : decode cX5_soonestEnd 13 = .ok (.invokevirtual 74, 3) := by decide +kernel
theorem dX5_soonestEnd_16 : decode cX5_soonestEnd 16 = .ok (.if_icmp .gt 46, 3) := by decide +kernel
theorem dX5_soonestEnd_19 : decode cX5_soonestEnd 19 = .ok (.aload_n 0, 1) := by decide +kernel
theorem dX5_soonestEnd_20 : decode cX5_soonestEnd 20 = .ok (.aload_n 1, 1) := by decide +kernel
theorem dX5_soonestEnd_21 : decode cX5_soonestEnd 21 = .ok (.aload_n 2, 1) := by decide +kernel
theorem dX5_soonestEnd_22 : decode cX5_soonestEnd 22 = .ok (.iload 4, 2) := by decide +kernel
theorem dX5_soonestEnd_24 : decode cX5_soonestEnd 24 = .ok (.iload 6, 2) := by decide +kernel
theorem dX5_soonestEnd_26 : decode cX5_soonestEnd 26 = .ok (.invokevirtual 77, 3) := by decide +kernel
theorem dX5_soonestEnd_29 : decode cX5_soonestEnd 29 = .ok (.istore 7, 2) := by decide +kernel
theorem dX5_soonestEnd_31 : decode cX5_soonestEnd 31 = .ok (.iload 7, 2) := by decide +kernel
theorem dX5_soonestEnd_33 : decode cX5_soonestEnd 33 = .ok (.ldc 41, 2) := by decide +kernel
theorem dX5_soonestEnd_35 : decode cX5_soonestEnd 35 = .ok (.if_icmp .eq 21, 3) := by decide +kernel
theorem dX5_soonestEnd_38 : decode cX5_soonestEnd 38 = .ok (.iload 5, 2) := by decide +kernel
theorem dX5_soonestEnd_40 : decode cX5_soonestEnd 40 = .ok (.aload_n 0, 1) := by decide +kernel
theorem dX5_soonestEnd_41 : decode cX5_soonestEnd 41 = .ok (.getfield 11, 3) := by decide +kernel
theorem dX5_soonestEnd_44 : decode cX5_soonestEnd 44 = .ok (.iload_n 3, 1) := by decide +kernel
theorem dX5_soonestEnd_45 : decode cX5_soonestEnd 45 = .ok (.iconst 1, 1) := by decide +kernel
theorem dX5_soonestEnd_46 : decode cX5_soonestEnd 46 = .ok (.iadd, 1) := by decide +kernel
theorem dX5_soonestEnd_47 : decode cX5_soonestEnd 47 = .ok (.aaload, 1) := by decide +kernel
theorem dX5_soonestEnd_48 : decode cX5_soonestEnd 48 = .ok (.iload 7, 2) := by decide +kernel
theorem dX5_soonestEnd_50 : decode cX5_soonestEnd 50 = .ok (.iaload, 1) := by decide +kernel
theorem dX5_soonestEnd_51 : decode cX5_soonestEnd 51 = .ok (.invokestatic 80, 3) := by decide +kernel
theorem dX5_soonestEnd_54 : decode cX5_soonestEnd 54 = .ok (.istore 5, 2) := by decide +kernel
theorem dX5_soonestEnd_56 : decode cX5_soonestEnd 56 = .ok (.iinc 6 1, 3) := by decide +kernel
theorem dX5_soonestEnd_59 : decode cX5_soonestEnd 59 = .ok (.goto (-49), 3) := by decide +kernel
theorem dX5_soonestEnd_62 : decode cX5_soonestEnd 62 = .ok (.iload 5, 2) := by decide +kernel
theorem dX5_soonestEnd_64 : decode cX5_soonestEnd 64 = .ok (.ireturn, 1) := by decide +kernel
theorem dX5_tellPaces_0 : decode cX5_tellPaces 0 = .ok (.aload_n 0, 1) := by decide +kernel
theorem dX5_tellPaces_1 : decode cX5_tellPaces 1 = .ok (.getfield 45, 3) := by decide +kernel
theorem dX5_tellPaces_4 : decode cX5_tellPaces 4 = .ok (.istore 4, 2) := by decide +kernel
theorem dX5_tellPaces_6 : decode cX5_tellPaces 6 = .ok (.iconst 0, 1) := by decide +kernel
theorem dX5_tellPaces_7 : decode cX5_tellPaces 7 = .ok (.istore 5, 2) := by decide +kernel
theorem dX5_tellPaces_9 : decode cX5_tellPaces 9 = .ok (.iload 5, 2) := by decide +kernel
theorem dX5_tellPaces_11 : decode cX5_tellPaces 11 = .ok (.aload_n 1, 1) := by decide +kernel
theorem dX5_tellPaces_12 : decode cX5_tellPaces 12 = .ok (.getfield 23, 3) := by decide +kernel
theorem dX5_tellPaces_15 : decode cX5_tellPaces 15 = .ok (.if_icmp .ge 94, 3) := by decide +kernel
theorem dX5_tellPaces_18 : decode cX5_tellPaces 18 = .ok (.aload_n 0, 1) := by decide +kernel
theorem dX5_tellPaces_19 : decode cX5_tellPaces 19 = .ok (.aload_n 1, 1) := by decide +kernel
theorem dX5_tellPaces_20 : decode cX5_tellPaces 20 = .ok (.getfield 29, 3) := by decide +kernel
theorem dX5_tellPaces_23 : decode cX5_tellPaces 23 = .ok (.iload 5, 2) := by decide +kernel
theorem dX5_tellPaces_25 : decode cX5_tellPaces 25 = .ok (.aaload, 1) := by decide +kernel
theorem dX5_tellPaces_26 : decode cX5_tellPaces 26 = .ok (.iload_n 3, 1) := by decide +kernel
theorem dX5_tellPaces_27 : decode cX5_tellPaces 27 = .ok (.bipush 100, 2) := by decide +kernel
theorem dX5_tellPaces_29 : decode cX5_tellPaces 29 = .ok (.iload 5, 2) := by decide +kernel
theorem dX5_tellPaces_31 : decode cX5_tellPaces 31 = .ok (.iconst 1, 1) := by decide +kernel
theorem dX5_tellPaces_32 : decode cX5_tellPaces 32 = .ok (.iadd, 1) := by decide +kernel
theorem dX5_tellPaces_33 : decode cX5_tellPaces 33 = .ok (.bipush 41, 2) := by decide +kernel
theorem dX5_tellPaces_35 : decode cX5_tellPaces 35 = .ok (.imul, 1) := by decide +kernel
theorem dX5_tellPaces_36 : decode cX5_tellPaces 36 = .ok (.iadd, 1) := by decide +kernel
theorem dX5_tellPaces_37 : decode cX5_tellPaces 37 = .ok (.invokevirtual 33, 3) := by decide +kernel
theorem dX5_tellPaces_40 : decode cX5_tellPaces 40 = .ok (.aload_n 0, 1) := by decide +kernel
theorem dX5_tellPaces_41 : decode cX5_tellPaces 41 = .ok (.getfield 20, 3) := by decide +kernel
theorem dX5_tellPaces_44 : decode cX5_tellPaces 44 = .ok (.iload 5, 2) := by decide +kernel
theorem dX5_tellPaces_46 : decode cX5_tellPaces 46 = .ok (.aload_n 0, 1) := by decide +kernel
theorem dX5_tellPaces_47 : decode cX5_tellPaces 47 = .ok (.aload_n 1, 1) := by decide +kernel
theorem dX5_tellPaces_48 : decode cX5_tellPaces 48 = .ok (.getfield 29, 3) := by decide +kernel
theorem dX5_tellPaces_51 : decode cX5_tellPaces 51 = .ok (.iload 5, 2) := by decide +kernel
theorem dX5_tellPaces_53 : decode cX5_tellPaces 53 = .ok (.aaload, 1) := by decide +kernel
theorem dX5_tellPaces_54 : decode cX5_tellPaces 54 = .ok (.aload_n 2, 1) := by decide +kernel
theorem dX5_tellPaces_55 : decode cX5_tellPaces 55 = .ok (.iload 5, 2) := by decide +kernel
theorem dX5_tellPaces_57 : decode cX5_tellPaces 57 = .ok (.iload 4, 2) := by decide +kernel
theorem dX5_tellPaces_59 : decode cX5_tellPaces 59 = .ok (.invokevirtual 85, 3) := by decide +kernel
theorem dX5_tellPaces_62 : decode cX5_tellPaces 62 = .ok (.iastore, 1) := by decide +kernel
theorem dX5_tellPaces_63 : decode cX5_tellPaces 63 = .ok (.iload 4, 2) := by decide +kernel
theorem dX5_tellPaces_65 : decode cX5_tellPaces 65 = .ok (.aload_n 1, 1) := by decide +kernel
theorem dX5_tellPaces_66 : decode cX5_tellPaces 66 = .ok (.getfield 29, 3) := by decide +kernel
theorem dX5_tellPaces_69 : decode cX5_tellPaces 69 = .ok (.iload 5, 2) := by decide +kernel
theorem dX5_tellPaces_71 : decode cX5_tellPaces 71 = .ok (.aaload, 1) := by decide +kernel
theorem dX5_tellPaces_72 : decode cX5_tellPaces 72 = .ok (.getfield 58, 3) := by decide +kernel
theorem dX5_tellPaces_75 : decode cX5_tellPaces 75 = .ok (.aload_n 0, 1) := by decide +kernel
theorem dX5_tellPaces_76 : decode cX5_tellPaces 76 = .ok (.getfield 20, 3) := by decide +kernel
theorem dX5_tellPaces_79 : decode cX5_tellPaces 79 = .ok (.iload 5, 2) := by decide +kernel
theorem dX5_tellPaces_81 : decode cX5_tellPaces 81 = .ok (.iaload, 1) := by decide +kernel
theorem dX5_tellPaces_82 : decode cX5_tellPaces 82 = .ok (.invokestatic 61, 3) := by decide +kernel
theorem dX5_tellPaces_85 : decode cX5_tellPaces 85 = .ok (.aload_n 2, 1) := by decide +kernel
theorem dX5_tellPaces_86 : decode cX5_tellPaces 86 = .ok (.invokevirtual 65, 3) := by decide +kernel
theorem dX5_tellPaces_89 : decode cX5_tellPaces 89 = .ok (.aload_n 0, 1) := by decide +kernel
theorem dX5_tellPaces_90 : decode cX5_tellPaces 90 = .ok (.getfield 20, 3) := by decide +kernel
theorem dX5_tellPaces_93 : decode cX5_tellPaces 93 = .ok (.iload 5, 2) := by decide +kernel
theorem dX5_tellPaces_95 : decode cX5_tellPaces 95 = .ok (.iaload, 1) := by decide +kernel
theorem dX5_tellPaces_96 : decode cX5_tellPaces 96 = .ok (.invokestatic 61, 3) := by decide +kernel
theorem dX5_tellPaces_99 : decode cX5_tellPaces 99 = .ok (.iadd, 1) := by decide +kernel
theorem dX5_tellPaces_100 : decode cX5_tellPaces 100 = .ok (.iadd, 1) := by decide +kernel
theorem dX5_tellPaces_101 : decode cX5_tellPaces 101 = .ok (.istore 4, 2) := by decide +kernel
theorem dX5_tellPaces_103 : decode cX5_tellPaces 103 = .ok (.iinc 5 1, 3) := by decide +kernel
theorem dX5_tellPaces_106 : decode cX5_tellPaces 106 = .ok (.goto (-97), 3) := by decide +kernel
theorem dX5_tellPaces_109 : decode cX5_tellPaces 109 = .ok (.return_, 1) := by decide +kernel
theorem dX5_firstPace_0 : decode cX5_firstPace 0 = .ok (.aload_n 2, 1) := by decide +kernel
theorem dX5_firstPace_1 : decode cX5_firstPace 1 = .ok (.invokevirtual 71, 3) := by decide +kernel
theorem dX5_firstPace_4 : decode cX5_firstPace 4 = .ok (.istore 5, 2) := by decide +kernel
theorem dX5_firstPace_6 : decode cX5_firstPace 6 = .ok (.iload 5, 2) := by decide +kernel
theorem dX5_firstPace_8 : decode cX5_firstPace 8 = .ok (.aload_n 2, 1) := by decide +kernel
theorem dX5_firstPace_9 : decode cX5_firstPace 9 = .ok (.invokevirtual 74, 3) := by decide +kernel
theorem dX5_firstPace_12 : decode cX5_firstPace 12 = .ok (.if_icmp .ge 49, 3) := by decide +kernel
theorem dX5_firstPace_15 : decode cX5_firstPace 15 = .ok (.aload_n 0, 1) := by decide +kernel
theorem dX5_firstPace_16 : decode cX5_firstPace 16 = .ok (.aload_n 1, 1) := by decide +kernel
theorem dX5_firstPace_17 : decode cX5_firstPace 17 = .ok (.aload_n 2, 1) := by decide +kernel
theorem dX5_firstPace_18 : decode cX5_firstPace 18 = .ok (.iload 4, 2) := by decide +kernel
theorem dX5_firstPace_20 : decode cX5_firstPace 20 = .ok (.iload 5, 2) := by decide +kernel
theorem dX5_firstPace_22 : decode cX5_firstPace 22 = .ok (.invokevirtual 77, 3) := by decide +kernel
theorem dX5_firstPace_25 : decode cX5_firstPace 25 = .ok (.istore 6, 2) := by decide +kernel
theorem dX5_firstPace_27 : decode cX5_firstPace 27 = .ok (.iload 6, 2) := by decide +kernel
theorem dX5_firstPace_29 : decode cX5_firstPace 29 = .ok (.ldc 41, 2) := by decide +kernel
theorem dX5_firstPace_31 : decode cX5_firstPace 31 = .ok (.if_icmp .eq 24, 3) := by decide +kernel
theorem dX5_firstPace_34 : decode cX5_firstPace 34 = .ok (.aload_n 0, 1) := by decide +kernel
theorem dX5_firstPace_35 : decode cX5_firstPace 35 = .ok (.getfield 11, 3) := by decide +kernel
theorem dX5_firstPace_38 : decode cX5_firstPace 38 = .ok (.iload_n 3, 1) := by decide +kernel
theorem dX5_firstPace_39 : decode cX5_firstPace 39 = .ok (.iconst 1, 1) := by decide +kernel
theorem dX5_firstPace_40 : decode cX5_firstPace 40 = .ok (.iadd, 1) := by decide +kernel
theorem dX5_firstPace_41 : decode cX5_firstPace 41 = .ok (.aaload, 1) := by decide +kernel
theorem dX5_firstPace_42 : decode cX5_firstPace 42 = .ok (.iload 6, 2) := by decide +kernel
theorem dX5_firstPace_44 : decode cX5_firstPace 44 = .ok (.iaload, 1) := by decide +kernel
theorem dX5_firstPace_45 : decode cX5_firstPace 45 = .ok (.aload_n 0, 1) := by decide +kernel
theorem dX5_firstPace_46 : decode cX5_firstPace 46 = .ok (.getfield 42, 3) := by decide +kernel
theorem dX5_firstPace_49 : decode cX5_firstPace 49 = .ok (.if_icmp .ne 6, 3) := by decide +kernel
theorem dX5_firstPace_52 : decode cX5_firstPace 52 = .ok (.iload 5, 2) := by decide +kernel
theorem dX5_firstPace_54 : decode cX5_firstPace 54 = .ok (.ireturn, 1) := by decide +kernel
theorem dX5_firstPace_55 : decode cX5_firstPace 55 = .ok (.iinc 5 1, 3) := by decide +kernel
theorem dX5_firstPace_58 : decode cX5_firstPace 58 = .ok (.goto (-52), 3) := by decide +kernel
theorem dX5_firstPace_61 : decode cX5_firstPace 61 = .ok (.aload_n 2, 1) := by decide +kernel
theorem dX5_firstPace_62 : decode cX5_firstPace 62 = .ok (.invokevirtual 74, 3) := by decide +kernel
theorem dX5_firstPace_65 : decode cX5_firstPace 65 = .ok (.ireturn, 1) := by decide +kernel
theorem dX6_init_0 : decode cX6_init 0 = .ok (.aload_n 0, 1) := by decide +kernel
theorem dX6_init_1 : decode cX6_init 1 = .ok (.invokespecial 1, 3) := by decide +kernel
theorem dX6_init_4 : decode cX6_init 4 = .ok (.aload_n 0, 1) := by decide +kernel
theorem dX6_init_5 : decode cX6_init 5 = .ok (.iconst 1, 1) := by decide +kernel
theorem dX6_init_6 : decode cX6_init 6 = .ok (.putfield 7, 3) := by decide +kernel
theorem dX6_init_9 : decode cX6_init 9 = .ok (.aload_n 0, 1) := by decide +kernel
theorem dX6_init_10 : decode cX6_init 10 = .ok (.iconst 1, 1) := by decide +kernel
theorem dX6_init_11 : decode cX6_init 11 = .ok (.putfield 13, 3) := by decide +kernel
theorem dX6_init_14 : decode cX6_init 14 = .ok (.return_, 1) := by decide +kernel
theorem dX6_become_0 : decode cX6_become 0 = .ok (.aload_n 0, 1) := by decide +kernel
theorem dX6_become_1 : decode cX6_become 1 = .ok (.iload_n 1, 1) := by decide +kernel
theorem dX6_become_2 : decode cX6_become 2 = .ok (.putfield 16, 3) := by decide +kernel
theorem dX6_become_5 : decode cX6_become 5 = .ok (.aload_n 0, 1) := by decide +kernel
theorem dX6_become_6 : decode cX6_become 6 = .ok (.iload_n 2, 1) := by decide +kernel
theorem dX6_become_7 : decode cX6_become 7 = .ok (.putfield 7, 3) := by decide +kernel
theorem dX6_become_10 : decode cX6_become 10 = .ok (.aload_n 0, 1) := by decide +kernel
theorem dX6_become_11 : decode cX6_become 11 = .ok (.iload_n 3, 1) := by decide +kernel
theorem dX6_become_12 : decode cX6_become 12 = .ok (.putfield 13, 3) := by decide +kernel
theorem dX6_become_15 : decode cX6_become 15 = .ok (.return_, 1) := by decide +kernel
theorem dX6_take_0 : decode cX6_take 0 = .ok (.aload_n 0, 1) := by decide +kernel
theorem dX6_take_1 : decode cX6_take 1 = .ok (.aload_n 1, 1) := by decide +kernel
theorem dX6_take_2 : decode cX6_take 2 = .ok (.getfield 16, 3) := by decide +kernel
theorem dX6_take_5 : decode cX6_take 5 = .ok (.aload_n 1, 1) := by decide +kernel
theorem dX6_take_6 : decode cX6_take 6 = .ok (.getfield 7, 3) := by decide +kernel
theorem dX6_take_9 : decode cX6_take 9 = .ok (.aload_n 1, 1) := by decide +kernel
theorem dX6_take_10 : decode cX6_take 10 = .ok (.getfield 13, 3) := by decide +kernel
theorem dX6_take_13 : decode cX6_take 13 = .ok (.invokevirtual 19, 3) := by decide +kernel
theorem dX6_take_16 : decode cX6_take 16 = .ok (.return_, 1) := by decide +kernel
theorem dX6_low_0 : decode cX6_low 0 = .ok (.aload_n 0, 1) := by decide +kernel
theorem dX6_low_1 : decode cX6_low 1 = .ok (.getfield 16, 3) := by decide +kernel
theorem dX6_low_4 : decode cX6_low 4 = .ok (.iconst 2, 1) := by decide +kernel
theorem dX6_low_5 : decode cX6_low 5 = .ok (.if_icmp .ne 10, 3) := by decide +kernel
theorem dX6_low_8 : decode cX6_low 8 = .ok (.aload_n 0, 1) := by decide +kernel
theorem dX6_low_9 : decode cX6_low 9 = .ok (.invokevirtual 23, 3) := by decide +kernel
theorem dX6_low_12 : decode cX6_low 12 = .ok (.goto 4, 3) := by decide +kernel
theorem dX6_low_15 : decode cX6_low 15 = .ok (.iconst 1, 1) := by decide +kernel
theorem dX6_low_16 : decode cX6_low 16 = .ok (.ireturn, 1) := by decide +kernel
theorem dX6_high_0 : decode cX6_high 0 = .ok (.aload_n 0, 1) := by decide +kernel
theorem dX6_high_1 : decode cX6_high 1 = .ok (.getfield 16, 3) := by decide +kernel
theorem dX6_high_4 : decode cX6_high 4 = .ok (.iconst 1, 1) := by decide +kernel
theorem dX6_high_5 : decode cX6_high 5 = .ok (.if_icmp .eq 11, 3) := by decide +kernel
theorem dX6_high_8 : decode cX6_high 8 = .ok (.aload_n 0, 1) := by decide +kernel
theorem dX6_high_9 : decode cX6_high 9 = .ok (.getfield 16, 3) := by decide +kernel
theorem dX6_high_12 : decode cX6_high 12 = .ok (.iconst 3, 1) := by decide +kernel
theorem dX6_high_13 : decode cX6_high 13 = .ok (.if_icmp .ne 7, 3) := by decide +kernel
theorem dX6_high_16 : decode cX6_high 16 = .ok (.iconst 1, 1) := by decide +kernel
theorem dX6_high_17 : decode cX6_high 17 = .ok (.goto 4, 3) := by decide +kernel
theorem dX6_high_20 : decode cX6_high 20 = .ok (.iconst 0, 1) := by decide +kernel
theorem dX6_high_21 : decode cX6_high 21 = .ok (.istore_n 1, 1) := by decide +kernel
theorem dX6_high_22 : decode cX6_high 22 = .ok (.iload_n 1, 1) := by decide +kernel
theorem dX6_high_23 : decode cX6_high 23 = .ok (.ifCond .eq 15, 3) := by decide +kernel
theorem dX6_high_26 : decode cX6_high 26 = .ok (.aload_n 0, 1) := by decide +kernel
theorem dX6_high_27 : decode cX6_high 27 = .ok (.getfield 13, 3) := by decide +kernel
theorem dX6_high_30 : decode cX6_high 30 = .ok (.iconst 2, 1) := by decide +kernel
theorem dX6_high_31 : decode cX6_high 31 = .ok (.if_icmp .le 7, 3) := by decide +kernel
theorem dX6_high_34 : decode cX6_high 34 = .ok (.iconst 2, 1) := by decide +kernel
theorem dX6_high_35 : decode cX6_high 35 = .ok (.goto 7, 3) := by decide +kernel
theorem dX6_high_38 : decode cX6_high 38 = .ok (.aload_n 0, 1) := by decide +kernel
theorem dX6_high_39 : decode cX6_high 39 = .ok (.getfield 13, 3) := by decide +kernel
theorem dX6_high_42 : decode cX6_high 42 = .ok (.ireturn, 1) := by decide +kernel
theorem dX6_span_0 : decode cX6_span 0 = .ok (.aload_n 0, 1) := by decide +kernel
theorem dX6_span_1 : decode cX6_span 1 = .ok (.getfield 16, 3) := by decide +kernel
theorem dX6_span_4 : decode cX6_span 4 = .ok (.iconst 3, 1) := by decide +kernel
theorem dX6_span_5 : decode cX6_span 5 = .ok (.if_icmp .ne 12, 3) := by decide +kernel
theorem dX6_span_8 : decode cX6_span 8 = .ok (.aload_n 0, 1) := by decide +kernel
theorem dX6_span_9 : decode cX6_span 9 = .ok (.getfield 7, 3) := by decide +kernel
theorem dX6_span_12 : decode cX6_span 12 = .ok (.iconst 2, 1) := by decide +kernel
theorem dX6_span_13 : decode cX6_span 13 = .ok (.iadd, 1) := by decide +kernel
theorem dX6_span_14 : decode cX6_span 14 = .ok (.goto 7, 3) := by decide +kernel
theorem dX6_span_17 : decode cX6_span 17 = .ok (.aload_n 0, 1) := by decide +kernel
theorem dX6_span_18 : decode cX6_span 18 = .ok (.getfield 7, 3) := by decide +kernel
theorem dX6_span_21 : decode cX6_span 21 = .ok (.ireturn, 1) := by decide +kernel
theorem dX7_init_0 : decode cX7_init 0 = .ok (.aload_n 0, 1) := by decide +kernel
theorem dX7_init_1 : decode cX7_init 1 = .ok (.invokespecial 3, 3) := by decide +kernel
theorem dX7_init_4 : decode cX7_init 4 = .ok (.aload_n 0, 1) := by decide +kernel
theorem dX7_init_5 : decode cX7_init 5 = .ok (.bipush 100, 2) := by decide +kernel
theorem dX7_init_7 : decode cX7_init 7 = .ok (.newarray .char, 2) := by decide +kernel
theorem dX7_init_9 : decode cX7_init 9 = .ok (.putfield 9, 3) := by decide +kernel
theorem dX7_init_12 : decode cX7_init 12 = .ok (.aload_n 0, 1) := by decide +kernel
theorem dX7_init_13 : decode cX7_init 13 = .ok (.bipush 6, 2) := by decide +kernel
theorem dX7_init_15 : decode cX7_init 15 = .ok (.anewarray 15, 3) := by decide +kernel
theorem dX7_init_18 : decode cX7_init 18 = .ok (.putfield 17, 3) := by decide +kernel
theorem dX7_init_21 : decode cX7_init 21 = .ok (.aload_n 0, 1) := by decide +kernel
theorem dX7_init_22 : decode cX7_init 22 = .ok (.iconst 5, 1) := by decide +kernel
theorem dX7_init_23 : decode cX7_init 23 = .ok (.anewarray 21, 3) := by decide +kernel
theorem dX7_init_26 : decode cX7_init 26 = .ok (.putfield 23, 3) := by decide +kernel
theorem dX7_init_29 : decode cX7_init 29 = .ok (.iconst 0, 1) := by decide +kernel
theorem dX7_init_30 : decode cX7_init 30 = .ok (.istore_n 1, 1) := by decide +kernel
theorem dX7_init_31 : decode cX7_init 31 = .ok (.iload_n 1, 1) := by decide +kernel
theorem dX7_init_32 : decode cX7_init 32 = .ok (.bipush 6, 2) := by decide +kernel
theorem dX7_init_34 : decode cX7_init 34 = .ok (.if_icmp .ge 22, 3) := by decide +kernel
theorem dX7_init_37 : decode cX7_init 37 = .ok (.aload_n 0, 1) := by decide +kernel
theorem dX7_init_38 : decode cX7_init 38 = .ok (.getfield 17, 3) := by decide +kernel
theorem dX7_init_41 : decode cX7_init 41 = .ok (.iload_n 1, 1) := by decide +kernel
theorem dX7_init_42 : decode cX7_init 42 = .ok (.new 15, 3) := by decide +kernel
theorem dX7_init_45 : decode cX7_init 45 = .ok (.dup, 1) := by decide +kernel
theorem dX7_init_46 : decode cX7_init 46 = .ok (.invokespecial 27, 3) := by decide +kernel
theorem dX7_init_49 : decode cX7_init 49 = .ok (.aastore, 1) := by decide +kernel
theorem dX7_init_50 : decode cX7_init 50 = .ok (.iinc 1 1, 3) := by decide +kernel
theorem dX7_init_53 : decode cX7_init 53 = .ok (.goto (-22), 3) := by decide +kernel
theorem dX7_init_56 : decode cX7_init 56 = .ok (.iconst 0, 1) := by decide +kernel
theorem dX7_init_57 : decode cX7_init 57 = .ok (.istore_n 1, 1) := by decide +kernel
theorem dX7_init_58 : decode cX7_init 58 = .ok (.iload_n 1, 1) := by decide +kernel
theorem dX7_init_59 : decode cX7_init 59 = .ok (.iconst 5, 1) := by decide +kernel
theorem dX7_init_60 : decode cX7_init 60 = .ok (.if_icmp .ge 22, 3) := by decide +kernel
theorem dX7_init_63 : decode cX7_init 63 = .ok (.aload_n 0, 1) := by decide +kernel
theorem dX7_init_64 : decode cX7_init 64 = .ok (.getfield 23, 3) := by decide +kernel
theorem dX7_init_67 : decode cX7_init 67 = .ok (.iload_n 1, 1) := by decide +kernel
theorem dX7_init_68 : decode cX7_init 68 = .ok (.new 21, 3) := by decide +kernel
theorem dX7_init_71 : decode cX7_init 71 = .ok (.dup, 1) := by decide +kernel
theorem dX7_init_72 : decode cX7_init 72 = .ok (.invokespecial 28, 3) := by decide +kernel
theorem dX7_init_75 : decode cX7_init 75 = .ok (.aastore, 1) := by decide +kernel
theorem dX7_init_76 : decode cX7_init 76 = .ok (.iinc 1 1, 3) := by decide +kernel
theorem dX7_init_79 : decode cX7_init 79 = .ok (.goto (-21), 3) := by decide +kernel
theorem dX7_init_82 : decode cX7_init 82 = .ok (.return_, 1) := by decide +kernel
theorem dX7_add_0 : decode cX7_add 0 = .ok (.aload_n 0, 1) := by decide +kernel
theorem dX7_add_1 : decode cX7_add 1 = .ok (.getfield 29, 3) := by decide +kernel
theorem dX7_add_4 : decode cX7_add 4 = .ok (.bipush 100, 2) := by decide +kernel
theorem dX7_add_6 : decode cX7_add 6 = .ok (.if_icmp .lt 5, 3) := by decide +kernel
theorem dX7_add_9 : decode cX7_add 9 = .ok (.iconst 0, 1) := by decide +kernel
theorem dX7_add_10 : decode cX7_add 10 = .ok (.ireturn, 1) := by decide +kernel
theorem dX7_add_11 : decode cX7_add 11 = .ok (.aload_n 0, 1) := by decide +kernel
theorem dX7_add_12 : decode cX7_add 12 = .ok (.getfield 9, 3) := by decide +kernel
theorem dX7_add_15 : decode cX7_add 15 = .ok (.aload_n 0, 1) := by decide +kernel
theorem dX7_add_16 : decode cX7_add 16 = .ok (.getfield 29, 3) := by decide +kernel
theorem dX7_add_19 : decode cX7_add 19 = .ok (.iload_n 1, 1) := by decide +kernel
theorem dX7_add_20 : decode cX7_add 20 = .ok (.castore, 1) := by decide +kernel
theorem dX7_add_21 : decode cX7_add 21 = .ok (.aload_n 0, 1) := by decide +kernel
theorem dX7_add_22 : decode cX7_add 22 = .ok (.dup, 1) := by decide +kernel
theorem dX7_add_23 : decode cX7_add 23 = .ok (.getfield 29, 3) := by decide +kernel
theorem dX7_add_26 : decode cX7_add 26 = .ok (.iconst 1, 1) := by decide +kernel
theorem dX7_add_27 : decode cX7_add 27 = .ok (.iadd, 1) := by decide +kernel
theorem dX7_add_28 : decode cX7_add 28 = .ok (.putfield 29, 3) := by decide +kernel
theorem dX7_add_31 : decode cX7_add 31 = .ok (.iconst 1, 1) := by decide +kernel
theorem dX7_add_32 : decode cX7_add 32 = .ok (.ireturn, 1) := by decide +kernel
theorem dX7_isStrait_0 : decode cX7_isStrait 0 = .ok (.aload_n 0, 1) := by decide +kernel
theorem dX7_isStrait_1 : decode cX7_isStrait 1 = .ok (.iconst 0, 1) := by decide +kernel
theorem dX7_isStrait_2 : decode cX7_isStrait 2 = .ok (.putfield 33, 3) := by decide +kernel
theorem dX7_isStrait_5 : decode cX7_isStrait 5 = .ok (.aload_n 0, 1) := by decide +kernel
theorem dX7_isStrait_6 : decode cX7_isStrait 6 = .ok (.iconst 0, 1) := by decide +kernel
theorem dX7_isStrait_7 : decode cX7_isStrait 7 = .ok (.putfield 36, 3) := by decide +kernel
theorem dX7_isStrait_10 : decode cX7_isStrait 10 = .ok (.aload_n 0, 1) := by decide +kernel
theorem dX7_isStrait_11 : decode cX7_isStrait 11 = .ok (.iconst 0, 1) := by decide +kernel
theorem dX7_isStrait_12 : decode cX7_isStrait 12 = .ok (.putfield 39, 3) := by decide +kernel
theorem dX7_isStrait_15 : decode cX7_isStrait 15 = .ok (.iconst 1, 1) := by decide +kernel
theorem dX7_isStrait_16 : decode cX7_isStrait 16 = .ok (.istore_n 1, 1) := by decide +kernel
theorem dX7_isStrait_17 : decode cX7_isStrait 17 = .ok (.iload_n 1, 1) := by decide +kernel
theorem dX7_isStrait_18 : decode cX7_isStrait 18 = .ok (.ifCond .eq 67, 3) := by decide +kernel
theorem dX7_isStrait_21 : decode cX7_isStrait 21 = .ok (.aload_n 0, 1) := by decide +kernel
theorem dX7_isStrait_22 : decode cX7_isStrait 22 = .ok (.getfield 36, 3) := by decide +kernel
theorem dX7_isStrait_25 : decode cX7_isStrait 25 = .ok (.bipush 6, 2) := by decide +kernel
theorem dX7_isStrait_27 : decode cX7_isStrait 27 = .ok (.if_icmp .ge 58, 3) := by decide +kernel
theorem dX7_isStrait_30 : decode cX7_isStrait 30 = .ok (.aload_n 0, 1) := by decide +kernel
theorem dX7_isStrait_31 : decode cX7_isStrait 31 = .ok (.aload_n 0, 1) := by decide +kernel
theorem dX7_isStrait_32 : decode cX7_isStrait 32 = .ok (.getfield 17, 3) := by decide +kernel
theorem dX7_isStrait_35 : decode cX7_isStrait 35 = .ok (.aload_n 0, 1) := by decide +kernel
theorem dX7_isStrait_36 : decode cX7_isStrait 36 = .ok (.getfield 36, 3) := by decide +kernel
theorem dX7_isStrait_39 : decode cX7_isStrait 39 = .ok (.aaload, 1) := by decide +kernel
theorem dX7_isStrait_40 : decode cX7_isStrait 40 = .ok (.invokevirtual 42, 3) := by decide +kernel
theorem dX7_isStrait_43 : decode cX7_isStrait 43 = .ok (.ifCond .ne 5, 3) := by decide +kernel
theorem dX7_isStrait_46 : decode cX7_isStrait 46 = .ok (.iconst 0, 1) := by decide +kernel
theorem dX7_isStrait_47 : decode cX7_isStrait 47 = .ok (.ireturn, 1) := by decide +kernel
theorem dX7_isStrait_48 : decode cX7_isStrait 48 = .ok (.aload_n 0, 1) := by decide +kernel
theorem dX7_isStrait_49 : decode cX7_isStrait 49 = .ok (.dup, 1) := by decide +kernel
theorem dX7_isStrait_50 : decode cX7_isStrait 50 = .ok (.getfield 36, 3) := by decide +kernel
theorem dX7_isStrait_53 : decode cX7_isStrait 53 = .ok (.iconst 1, 1) := by decide +kernel
theorem dX7_isStrait_54 : decode cX7_isStrait 54 = .ok (.iadd, 1) := by decide +kernel
theorem dX7_isStrait_55 : decode cX7_isStrait 55 = .ok (.putfield 36, 3) := by decide +kernel
theorem dX7_isStrait_58 : decode cX7_isStrait 58 = .ok (.aload_n 0, 1) := by decide +kernel
theorem dX7_isStrait_59 : decode cX7_isStrait 59 = .ok (.getfield 36, 3) := by decide +kernel
theorem dX7_isStrait_62 : decode cX7_isStrait 62 = .ok (.bipush 6, 2) := by decide +kernel
theorem dX7_isStrait_64 : decode cX7_isStrait 64 = .ok (.if_icmp .ge 16, 3) := by decide +kernel
theorem dX7_isStrait_67 : decode cX7_isStrait 67 = .ok (.aload_n 0, 1) := by decide +kernel
theorem dX7_isStrait_68 : decode cX7_isStrait 68 = .ok (.bipush 44, 2) := by decide +kernel
theorem dX7_isStrait_70 : decode cX7_isStrait 70 = .ok (.invokevirtual 46, 3) := by decide +kernel
theorem dX7_isStrait_73 : decode cX7_isStrait 73 = .ok (.ifCond .eq 7, 3) := by decide +kernel
theorem dX7_isStrait_76 : decode cX7_isStrait 76 = .ok (.iconst 1, 1) := by decide +kernel
theorem dX7_isStrait_77 : decode cX7_isStrait 77 = .ok (.goto 4, 3) := by decide +kernel
theorem dX7_isStrait_80 : decode cX7_isStrait 80 = .ok (.iconst 0, 1) := by decide +kernel
theorem dX7_isStrait_81 : decode cX7_isStrait 81 = .ok (.istore_n 1, 1) := by decide +kernel
theorem dX7_isStrait_82 : decode cX7_isStrait 82 = .ok (.goto (-65), 3) := by decide +kernel
theorem dX7_isStrait_85 : decode cX7_isStrait 85 = .ok (.aload_n 0, 1) := by decide +kernel
theorem dX7_isStrait_86 : decode cX7_isStrait 86 = .ok (.bipush 59, 2) := by decide +kernel
theorem dX7_isStrait_88 : decode cX7_isStrait 88 = .ok (.invokevirtual 46, 3) := by decide +kernel
theorem dX7_isStrait_91 : decode cX7_isStrait 91 = .ok (.ifCond .eq 12, 3) := by decide +kernel
theorem dX7_isStrait_94 : decode cX7_isStrait 94 = .ok (.aload_n 0, 1) := by decide +kernel
theorem dX7_isStrait_95 : decode cX7_isStrait 95 = .ok (.invokevirtual 50, 3) := by decide +kernel
theorem dX7_isStrait_98 : decode cX7_isStrait 98 = .ok (.ifCond .ne 5, 3) := by decide +kernel
theorem dX7_isStrait_101 : decode cX7_isStrait 101 = .ok (.iconst 0, 1) := by decide +kernel
theorem dX7_isStrait_102 : decode cX7_isStrait 102 = .ok (.ireturn, 1) := by decide +kernel
theorem dX7_isStrait_103 : decode cX7_isStrait 103 = .ok (.aload_n 0, 1) := by decide +kernel
theorem dX7_isStrait_104 : decode cX7_isStrait 104 = .ok (.invokevirtual 54, 3) := by decide +kernel
theorem dX7_isStrait_107 : decode cX7_isStrait 107 = .ok (.ifCond .ne 7, 3) := by decide +kernel
theorem dX7_isStrait_110 : decode cX7_isStrait 110 = .ok (.iconst 1, 1) := by decide +kernel
theorem dX7_isStrait_111 : decode cX7_isStrait 111 = .ok (.goto 4, 3) := by decide +kernel
theorem dX7_isStrait_114 : decode cX7_isStrait 114 = .ok (.iconst 0, 1) := by decide +kernel
theorem dX7_isStrait_115 : decode cX7_isStrait 115 = .ok (.ireturn, 1) := by decide +kernel
theorem dX7_areShipsRead_0 : decode cX7_areShipsRead 0 = .ok (.iconst 1, 1) := by decide +kernel
theorem dX7_areShipsRead_1 : decode cX7_areShipsRead 1 = .ok (.istore_n 1, 1) := by decide +kernel
theorem dX7_areShipsRead_2 : decode cX7_areShipsRead 2 = .ok (.iload_n 1, 1) := by decide +kernel
theorem dX7_areShipsRead_3 : decode cX7_areShipsRead 3 = .ok (.ifCond .eq 65, 3) := by decide +kernel
theorem dX7_areShipsRead_6 : decode cX7_areShipsRead 6 = .ok (.aload_n 0, 1) := by decide +kernel
theorem dX7_areShipsRead_7 : decode cX7_areShipsRead 7 = .ok (.getfield 39, 3) := by decide +kernel
theorem dX7_areShipsRead_10 : decode cX7_areShipsRead 10 = .ok (.iconst 5, 1) := by decide +kernel
theorem dX7_areShipsRead_11 : decode cX7_areShipsRead 11 = .ok (.if_icmp .ge 57, 3) := by decide +kernel
theorem dX7_areShipsRead_14 : decode cX7_areShipsRead 14 = .ok (.aload_n 0, 1) := by decide +kernel
theorem dX7_areShipsRead_15 : decode cX7_areShipsRead 15 = .ok (.aload_n 0, 1) := by decide +kernel
theorem dX7_areShipsRead_16 : decode cX7_areShipsRead 16 = .ok (.getfield 23, 3) := by decide +kernel
theorem dX7_areShipsRead_19 : decode cX7_areShipsRead 19 = .ok (.aload_n 0, 1) := by decide +kernel
theorem dX7_areShipsRead_20 : decode cX7_areShipsRead 20 = .ok (.getfield 39, 3) := by decide +kernel
theorem dX7_areShipsRead_23 : decode cX7_areShipsRead 23 = .ok (.aaload, 1) := by decide +kernel
theorem dX7_areShipsRead_24 : decode cX7_areShipsRead 24 = .ok (.invokevirtual 58, 3) := by decide +kernel
theorem dX7_areShipsRead_27 : decode cX7_areShipsRead 27 = .ok (.ifCond .ne 5, 3) := by decide +kernel
theorem dX7_areShipsRead_30 : decode cX7_areShipsRead 30 = .ok (.iconst 0, 1) := by decide +kernel
theorem dX7_areShipsRead_31 : decode cX7_areShipsRead 31 = .ok (.ireturn, 1) := by decide +kernel
theorem dX7_areShipsRead_32 : decode cX7_areShipsRead 32 = .ok (.aload_n 0, 1) := by decide +kernel
theorem dX7_areShipsRead_33 : decode cX7_areShipsRead 33 = .ok (.dup, 1) := by decide +kernel
theorem dX7_areShipsRead_34 : decode cX7_areShipsRead 34 = .ok (.getfield 39, 3) := by decide +kernel
theorem dX7_areShipsRead_37 : decode cX7_areShipsRead 37 = .ok (.iconst 1, 1) := by decide +kernel
theorem dX7_areShipsRead_38 : decode cX7_areShipsRead 38 = .ok (.iadd, 1) := by decide +kernel
theorem dX7_areShipsRead_39 : decode cX7_areShipsRead 39 = .ok (.putfield 39, 3) := by decide +kernel
theorem dX7_areShipsRead_42 : decode cX7_areShipsRead 42 = .ok (.aload_n 0, 1) := by decide +kernel
theorem dX7_areShipsRead_43 : decode cX7_areShipsRead 43 = .ok (.getfield 39, 3) := by decide +kernel
theorem dX7_areShipsRead_46 : decode cX7_areShipsRead 46 = .ok (.iconst 5, 1) := by decide +kernel
theorem dX7_areShipsRead_47 : decode cX7_areShipsRead 47 = .ok (.if_icmp .ge 16, 3) := by decide +kernel
theorem dX7_areShipsRead_50 : decode cX7_areShipsRead 50 = .ok (.aload_n 0, 1) := by decide +kernel
theorem dX7_areShipsRead_51 : decode cX7_areShipsRead 51 = .ok (.bipush 44, 2) := by decide +kernel
theorem dX7_areShipsRead_53 : decode cX7_areShipsRead 53 = .ok (.invokevirtual 46, 3) := by decide +kernel
theorem dX7_areShipsRead_56 : decode cX7_areShipsRead 56 = .ok (.ifCond .eq 7, 3) := by decide +kernel
theorem dX7_areShipsRead_59 : decode cX7_areShipsRead 59 = .ok (.iconst 1, 1) := by decide +kernel
theorem dX7_areShipsRead_60 : decode cX7_areShipsRead 60 = .ok (.goto 4, 3) := by decide +kernel
theorem dX7_areShipsRead_63 : decode cX7_areShipsRead 63 = .ok (.iconst 0, 1) := by decide +kernel
theorem dX7_areShipsRead_64 : decode cX7_areShipsRead 64 = .ok (.istore_n 1, 1) := by decide +kernel
theorem dX7_areShipsRead_65 : decode cX7_areShipsRead 65 = .ok (.goto (-63), 3) := by decide +kernel
theorem dX7_areShipsRead_68 : decode cX7_areShipsRead 68 = .ok (.iconst 1, 1) := by decide +kernel
theorem dX7_areShipsRead_69 : decode cX7_areShipsRead 69 = .ok (.ireturn, 1) := by decide +kernel
theorem dX7_isPairRead_0 : decode cX7_isPairRead 0 = .ok (.aload_n 0, 1) := by decide +kernel
theorem dX7_isPairRead_1 : decode cX7_isPairRead 1 = .ok (.ldc 62, 2) := by decide +kernel
theorem dX7_isPairRead_3 : decode cX7_isPairRead 3 = .ok (.invokevirtual 64, 3) := by decide +kernel
theorem dX7_isPairRead_6 : decode cX7_isPairRead 6 = .ok (.istore_n 2, 1) := by decide +kernel
theorem dX7_isPairRead_7 : decode cX7_isPairRead 7 = .ok (.iload_n 2, 1) := by decide +kernel
theorem dX7_isPairRead_8 : decode cX7_isPairRead 8 = .ok (.ifCond .ge 7, 3) := by decide +kernel
theorem dX7_isPairRead_11 : decode cX7_isPairRead 11 = .ok (.iconst (-1), 1) := by decide +kernel
theorem dX7_isPairRead_12 : decode cX7_isPairRead 12 = .ok (.goto 10, 3) := by decide +kernel
theorem dX7_isPairRead_15 : decode cX7_isPairRead 15 = .ok (.aload_n 0, 1) := by decide +kernel
theorem dX7_isPairRead_16 : decode cX7_isPairRead 16 = .ok (.iconst 1, 1) := by decide +kernel
theorem dX7_isPairRead_17 : decode cX7_isPairRead 17 = .ok (.bipush 30, 2) := by decide +kernel
theorem dX7_isPairRead_19 : decode cX7_isPairRead 19 = .ok (.invokevirtual 68, 3) := by decide +kernel
theorem dX7_isPairRead_22 : decode cX7_isPairRead 22 = .ok (.istore_n 3, 1) := by decide +kernel
theorem dX7_isPairRead_23 : decode cX7_isPairRead 23 = .ok (.iload_n 3, 1) := by decide +kernel
theorem dX7_isPairRead_24 : decode cX7_isPairRead 24 = .ok (.ifCond .lt 12, 3) := by decide +kernel
theorem dX7_isPairRead_27 : decode cX7_isPairRead 27 = .ok (.aload_n 0, 1) := by decide +kernel
theorem dX7_isPairRead_28 : decode cX7_isPairRead 28 = .ok (.bipush 47, 2) := by decide +kernel
theorem dX7_isPairRead_30 : decode cX7_isPairRead 30 = .ok (.invokevirtual 46, 3) := by decide +kernel
theorem dX7_isPairRead_33 : decode cX7_isPairRead 33 = .ok (.ifCond .ne 5, 3) := by decide +kernel
theorem dX7_isPairRead_36 : decode cX7_isPairRead 36 = .ok (.iconst 0, 1) := by decide +kernel
theorem dX7_isPairRead_37 : decode cX7_isPairRead 37 = .ok (.ireturn, 1) := by decide +kernel
theorem dX7_isPairRead_38 : decode cX7_isPairRead 38 = .ok (.aload_n 0, 1) := by decide +kernel
theorem dX7_isPairRead_39 : decode cX7_isPairRead 39 = .ok (.iconst 2, 1) := by decide +kernel
theorem dX7_isPairRead_40 : decode cX7_isPairRead 40 = .ok (.bipush 24, 2) := by decide +kernel
theorem dX7_isPairRead_42 : decode cX7_isPairRead 42 = .ok (.invokevirtual 68, 3) := by decide +kernel
theorem dX7_isPairRead_45 : decode cX7_isPairRead 45 = .ok (.istore 4, 2) := by decide +kernel
theorem dX7_isPairRead_47 : decode cX7_isPairRead 47 = .ok (.iload 4, 2) := by decide +kernel
theorem dX7_isPairRead_49 : decode cX7_isPairRead 49 = .ok (.ifCond .lt 12, 3) := by decide +kernel
theorem dX7_isPairRead_52 : decode cX7_isPairRead 52 = .ok (.aload_n 0, 1) := by decide +kernel
theorem dX7_isPairRead_53 : decode cX7_isPairRead 53 = .ok (.bipush 47, 2) := by decide +kernel
theorem dX7_isPairRead_55 : decode cX7_isPairRead 55 = .ok (.invokevirtual 46, 3) := by decide +kernel
theorem dX7_isPairRead_58 : decode cX7_isPairRead 58 = .ok (.ifCond .ne 5, 3) := by decide +kernel
theorem dX7_isPairRead_61 : decode cX7_isPairRead 61 = .ok (.iconst 0, 1) := by decide +kernel
theorem dX7_isPairRead_62 : decode cX7_isPairRead 62 = .ok (.ireturn, 1) := by decide +kernel
theorem dX7_isPairRead_63 : decode cX7_isPairRead 63 = .ok (.aload_n 0, 1) := by decide +kernel
theorem dX7_isPairRead_64 : decode cX7_isPairRead 64 = .ok (.iconst 1, 1) := by decide +kernel
theorem dX7_isPairRead_65 : decode cX7_isPairRead 65 = .ok (.iload 4, 2) := by decide +kernel
theorem dX7_isPairRead_67 : decode cX7_isPairRead 67 = .ok (.invokevirtual 68, 3) := by decide +kernel
theorem dX7_isPairRead_70 : decode cX7_isPairRead 70 = .ok (.istore 5, 2) := by decide +kernel
theorem dX7_isPairRead_72 : decode cX7_isPairRead 72 = .ok (.iload 5, 2) := by decide +kernel
theorem dX7_isPairRead_74 : decode cX7_isPairRead 74 = .ok (.ifCond .ge 5, 3) := by decide +kernel
theorem dX7_isPairRead_77 : decode cX7_isPairRead 77 = .ok (.iconst 0, 1) := by decide +kernel
theorem dX7_isPairRead_78 : decode cX7_isPairRead 78 = .ok (.ireturn, 1) := by decide +kernel
theorem dX7_isPairRead_79 : decode cX7_isPairRead 79 = .ok (.aload_n 0, 1) := by decide +kernel
theorem dX7_isPairRead_80 : decode cX7_isPairRead 80 = .ok (.bipush 43, 2) := by decide +kernel
theorem dX7_isPairRead_82 : decode cX7_isPairRead 82 = .ok (.invokevirtual 46, 3) := by decide +kernel
theorem dX7_isPairRead_85 : decode cX7_isPairRead 85 = .ok (.ifCond .eq 15, 3) := by decide +kernel
theorem dX7_isPairRead_88 : decode cX7_isPairRead 88 = .ok (.aload_n 0, 1) := by decide +kernel
theorem dX7_isPairRead_89 : decode cX7_isPairRead 89 = .ok (.iconst 0, 1) := by decide +kernel
theorem dX7_isPairRead_90 : decode cX7_isPairRead 90 = .ok (.iload 4, 2) := by decide +kernel
theorem dX7_isPairRead_92 : decode cX7_isPairRead 92 = .ok (.iconst 1, 1) := by decide +kernel
theorem dX7_isPairRead_93 : decode cX7_isPairRead 93 = .ok (.isub, 1) := by decide +kernel
theorem dX7_isPairRead_94 : decode cX7_isPairRead 94 = .ok (.invokevirtual 68, 3) := by decide +kernel
theorem dX7_isPairRead_97 : decode cX7_isPairRead 97 = .ok (.goto 4, 3) := by decide +kernel
theorem dX7_isPairRead_100 : decode cX7_isPairRead 100 = .ok (.iconst 0, 1) := by decide +kernel
theorem dX7_isPairRead_101 : decode cX7_isPairRead 101 = .ok (.istore 6, 2) := by decide +kernel
theorem dX7_isPairRead_103 : decode cX7_isPairRead 103 = .ok (.iload 6, 2) := by decide +kernel
theorem dX7_isPairRead_105 : decode cX7_isPairRead 105 = .ok (.ifCond .ge 5, 3) := by decide +kernel
theorem dX7_isPairRead_108 : decode cX7_isPairRead 108 = .ok (.iconst 0, 1) := by decide +kernel
theorem dX7_isPairRead_109 : decode cX7_isPairRead 109 = .ok (.ireturn, 1) := by decide +kernel
theorem dX7_isPairRead_110 : decode cX7_isPairRead 110 = .ok (.aload_n 1, 1) := by decide +kernel
theorem dX7_isPairRead_111 : decode cX7_isPairRead 111 = .ok (.iload_n 2, 1) := by decide +kernel
theorem dX7_isPairRead_112 : decode cX7_isPairRead 112 = .ok (.iload_n 3, 1) := by decide +kernel
theorem dX7_isPairRead_113 : decode cX7_isPairRead 113 = .ok (.iload 4, 2) := by decide +kernel
theorem dX7_isPairRead_115 : decode cX7_isPairRead 115 = .ok (.iload 5, 2) := by decide +kernel
theorem dX7_isPairRead_117 : decode cX7_isPairRead 117 = .ok (.invokevirtual 72, 3) := by decide +kernel
theorem dX7_isPairRead_120 : decode cX7_isPairRead 120 = .ok (.aload_n 1, 1) := by decide +kernel
theorem dX7_isPairRead_121 : decode cX7_isPairRead 121 = .ok (.iload 6, 2) := by decide +kernel
theorem dX7_isPairRead_123 : decode cX7_isPairRead 123 = .ok (.putfield 76, 3) := by decide +kernel
theorem dX7_isPairRead_126 : decode cX7_isPairRead 126 = .ok (.iconst 1, 1) := by decide +kernel
theorem dX7_isPairRead_127 : decode cX7_isPairRead 127 = .ok (.ireturn, 1) := by decide +kernel
theorem dX7_isShipRead_0 : decode cX7_isShipRead 0 = .ok (.aload_n 0, 1) := by decide +kernel
theorem dX7_isShipRead_1 : decode cX7_isShipRead 1 = .ok (.ldc 79, 2) := by decide +kernel
theorem dX7_isShipRead_3 : decode cX7_isShipRead 3 = .ok (.invokevirtual 64, 3) := by decide +kernel
theorem dX7_isShipRead_6 : decode cX7_isShipRead 6 = .ok (.istore_n 2, 1) := by decide +kernel
theorem dX7_isShipRead_7 : decode cX7_isShipRead 7 = .ok (.iload_n 2, 1) := by decide +kernel
theorem dX7_isShipRead_8 : decode cX7_isShipRead 8 = .ok (.ifCond .ge 7, 3) := by decide +kernel
theorem dX7_isShipRead_11 : decode cX7_isShipRead 11 = .ok (.iconst (-1), 1) := by decide +kernel
theorem dX7_isShipRead_12 : decode cX7_isShipRead 12 = .ok (.goto 9, 3) := by decide +kernel
theorem dX7_isShipRead_15 : decode cX7_isShipRead 15 = .ok (.aload_n 0, 1) := by decide +kernel
theorem dX7_isShipRead_16 : decode cX7_isShipRead 16 = .ok (.bipush 9, 2) := by decide +kernel
theorem dX7_isShipRead_18 : decode cX7_isShipRead 18 = .ok (.invokevirtual 81, 3) := by decide +kernel
theorem dX7_isShipRead_21 : decode cX7_isShipRead 21 = .ok (.istore_n 3, 1) := by decide +kernel
theorem dX7_isShipRead_22 : decode cX7_isShipRead 22 = .ok (.iload_n 3, 1) := by decide +kernel
theorem dX7_isShipRead_23 : decode cX7_isShipRead 23 = .ok (.ifCond .ge 7, 3) := by decide +kernel
theorem dX7_isShipRead_26 : decode cX7_isShipRead 26 = .ok (.iconst (-1), 1) := by decide +kernel
theorem dX7_isShipRead_27 : decode cX7_isShipRead 27 = .ok (.goto 8, 3) := by decide +kernel
theorem dX7_isShipRead_30 : decode cX7_isShipRead 30 = .ok (.aload_n 0, 1) := by decide +kernel
theorem dX7_isShipRead_31 : decode cX7_isShipRead 31 = .ok (.iconst 5, 1) := by decide +kernel
theorem dX7_isShipRead_32 : decode cX7_isShipRead 32 = .ok (.invokevirtual 81, 3) := by decide +kernel
theorem dX7_isShipRead_35 : decode cX7_isShipRead 35 = .ok (.istore 4, 2) := by decide +kernel
theorem dX7_isShipRead_37 : decode cX7_isShipRead 37 = .ok (.iload 4, 2) := by decide +kernel
theorem dX7_isShipRead_39 : decode cX7_isShipRead 39 = .ok (.ifCond .ge 5, 3) := by decide +kernel
theorem dX7_isShipRead_42 : decode cX7_isShipRead 42 = .ok (.iconst 0, 1) := by decide +kernel
theorem dX7_isShipRead_43 : decode cX7_isShipRead 43 = .ok (.ireturn, 1) := by decide +kernel
theorem dX7_isShipRead_44 : decode cX7_isShipRead 44 = .ok (.aload_n 1, 1) := by decide +kernel
theorem dX7_isShipRead_45 : decode cX7_isShipRead 45 = .ok (.iload_n 2, 1) := by decide +kernel
theorem dX7_isShipRead_46 : decode cX7_isShipRead 46 = .ok (.iload_n 3, 1) := by decide +kernel
theorem dX7_isShipRead_47 : decode cX7_isShipRead 47 = .ok (.iload 4, 2) := by decide +kernel
theorem dX7_isShipRead_49 : decode cX7_isShipRead 49 = .ok (.invokevirtual 85, 3) := by decide +kernel
theorem dX7_isShipRead_52 : decode cX7_isShipRead 52 = .ok (.iconst 1, 1) := by decide +kernel
theorem dX7_isShipRead_53 : decode cX7_isShipRead 53 = .ok (.ireturn, 1) := by decide +kernel
theorem dX7_letterHere_0 : decode cX7_letterHere 0 = .ok (.aload_n 0, 1) := by decide +kernel
theorem dX7_letterHere_1 : decode cX7_letterHere 1 = .ok (.getfield 33, 3) := by decide +kernel
theorem dX7_letterHere_4 : decode cX7_letterHere 4 = .ok (.aload_n 0, 1) := by decide +kernel
theorem dX7_letterHere_5 : decode cX7_letterHere 5 = .ok (.getfield 29, 3) := by decide +kernel
theorem dX7_letterHere_8 : decode cX7_letterHere 8 = .ok (.if_icmp .ge 30, 3) := by decide +kernel
theorem dX7_letterHere_11 : decode cX7_letterHere 11 = .ok (.aload_n 0, 1) := by decide +kernel
theorem dX7_letterHere_12 : decode cX7_letterHere 12 = .ok (.getfield 9, 3) := by decide +kernel
theorem dX7_letterHere_15 : decode cX7_letterHere 15 = .ok (.aload_n 0, 1) := by decide +kernel
theorem dX7_letterHere_16 : decode cX7_letterHere 16 = .ok (.getfield 33, 3) := by decide +kernel
theorem dX7_letterHere_19 : decode cX7_letterHere 19 = .ok (.caload, 1) := by decide +kernel
theorem dX7_letterHere_20 : decode cX7_letterHere 20 = .ok (.bipush 32, 2) := by decide +kernel
theorem dX7_letterHere_22 : decode cX7_letterHere 22 = .ok (.if_icmp .ne 16, 3) := by decide +kernel
theorem dX7_letterHere_25 : decode cX7_letterHere 25 = .ok (.aload_n 0, 1) := by decide +kernel
theorem dX7_letterHere_26 : decode cX7_letterHere 26 = .ok (.dup, 1) := by decide +kernel
theorem dX7_letterHere_27 : decode cX7_letterHere 27 = .ok (.getfield 33, 3) := by decide +kernel
theorem dX7_letterHere_30 : decode cX7_letterHere 30 = .ok (.iconst 1, 1) := by decide +kernel
theorem dX7_letterHere_31 : decode cX7_letterHere 31 = .ok (.iadd, 1) := by decide +kernel
theorem dX7_letterHere_32 : decode cX7_letterHere 32 = .ok (.putfield 33, 3) := by decide +kernel
theorem dX7_letterHere_35 : decode cX7_letterHere 35 = .ok (.goto (-35), 3) := by decide +kernel
theorem dX7_letterHere_38 : decode cX7_letterHere 38 = .ok (.aload_n 0, 1) := by decide +kernel
theorem dX7_letterHere_39 : decode cX7_letterHere 39 = .ok (.getfield 33, 3) := by decide +kernel
theorem dX7_letterHere_42 : decode cX7_letterHere 42 = .ok (.aload_n 0, 1) := by decide +kernel
theorem dX7_letterHere_43 : decode cX7_letterHere 43 = .ok (.getfield 29, 3) := by decide +kernel
theorem dX7_letterHere_46 : decode cX7_letterHere 46 = .ok (.if_icmp .ge 15, 3) := by decide +kernel
theorem dX7_letterHere_49 : decode cX7_letterHere 49 = .ok (.aload_n 0, 1) := by decide +kernel
theorem dX7_letterHere_50 : decode cX7_letterHere 50 = .ok (.getfield 9, 3) := by decide +kernel
theorem dX7_letterHere_53 : decode cX7_letterHere 53 = .ok (.aload_n 0, 1) := by decide +kernel
theorem dX7_letterHere_54 : decode cX7_letterHere 54 = .ok (.getfield 33, 3) := by decide +kernel
theorem dX7_letterHere_57 : decode cX7_letterHere 57 = .ok (.caload, 1) := by decide +kernel
theorem dX7_letterHere_58 : decode cX7_letterHere 58 = .ok (.goto 4, 3) := by decide +kernel
theorem dX7_letterHere_61 : decode cX7_letterHere 61 = .ok (.iconst 0, 1) := by decide +kernel
theorem dX7_letterHere_62 : decode cX7_letterHere 62 = .ok (.ireturn, 1) := by decide +kernel
theorem dX7_isTaken_0 : decode cX7_isTaken 0 = .ok (.aload_n 0, 1) := by decide +kernel
theorem dX7_isTaken_1 : decode cX7_isTaken 1 = .ok (.invokevirtual 54, 3) := by decide +kernel
theorem dX7_isTaken_4 : decode cX7_isTaken 4 = .ok (.iload_n 1, 1) := by decide +kernel
theorem dX7_isTaken_5 : decode cX7_isTaken 5 = .ok (.if_icmp .eq 5, 3) := by decide +kernel
theorem dX7_isTaken_8 : decode cX7_isTaken 8 = .ok (.iconst 0, 1) := by decide +kernel
theorem dX7_isTaken_9 : decode cX7_isTaken 9 = .ok (.ireturn, 1) := by decide +kernel
theorem dX7_isTaken_10 : decode cX7_isTaken 10 = .ok (.aload_n 0, 1) := by decide +kernel
theorem dX7_isTaken_11 : decode cX7_isTaken 11 = .ok (.dup, 1) := by decide +kernel
theorem dX7_isTaken_12 : decode cX7_isTaken 12 = .ok (.getfield 33, 3) := by decide +kernel
theorem dX7_isTaken_15 : decode cX7_isTaken 15 = .ok (.iconst 1, 1) := by decide +kernel
theorem dX7_isTaken_16 : decode cX7_isTaken 16 = .ok (.iadd, 1) := by decide +kernel
theorem dX7_isTaken_17 : decode cX7_isTaken 17 = .ok (.putfield 33, 3) := by decide +kernel
theorem dX7_isTaken_20 : decode cX7_isTaken 20 = .ok (.iconst 1, 1) := by decide +kernel
theorem dX7_isTaken_21 : decode cX7_isTaken 21 = .ok (.ireturn, 1) := by decide +kernel
theorem dX7_kindRead_0 : decode cX7_kindRead 0 = .ok (.aload_n 1, 1) := by decide +kernel
theorem dX7_kindRead_1 : decode cX7_kindRead 1 = .ok (.aload_n 0, 1) := by decide +kernel
theorem dX7_kindRead_2 : decode cX7_kindRead 2 = .ok (.invokevirtual 54, 3) := by decide +kernel
theorem dX7_kindRead_5 : decode cX7_kindRead 5 = .ok (.invokevirtual 88, 3) := by decide +kernel
theorem dX7_kindRead_8 : decode cX7_kindRead 8 = .ok (.istore_n 2, 1) := by decide +kernel
theorem dX7_kindRead_9 : decode cX7_kindRead 9 = .ok (.aload_n 0, 1) := by decide +kernel
theorem dX7_kindRead_10 : decode cX7_kindRead 10 = .ok (.dup, 1) := by decide +kernel
theorem dX7_kindRead_11 : decode cX7_kindRead 11 = .ok (.getfield 33, 3) := by decide +kernel
theorem dX7_kindRead_14 : decode cX7_kindRead 14 = .ok (.iload_n 2, 1) := by decide +kernel
theorem dX7_kindRead_15 : decode cX7_kindRead 15 = .ok (.ifCond .ge 7, 3) := by decide +kernel
theorem dX7_kindRead_18 : decode cX7_kindRead 18 = .ok (.iconst 0, 1) := by decide +kernel
theorem dX7_kindRead_19 : decode cX7_kindRead 19 = .ok (.goto 4, 3) := by decide +kernel
theorem dX7_kindRead_22 : decode cX7_kindRead 22 = .ok (.iconst 1, 1) := by decide +kernel
theorem dX7_kindRead_23 : decode cX7_kindRead 23 = .ok (.iadd, 1) := by decide +kernel
theorem dX7_kindRead_24 : decode cX7_kindRead 24 = .ok (.putfield 33, 3) := by decide +kernel
theorem dX7_kindRead_27 : decode cX7_kindRead 27 = .ok (.iload_n 2, 1) := by decide +kernel
theorem dX7_kindRead_28 : decode cX7_kindRead 28 = .ok (.ireturn, 1) := by decide +kernel
theorem dX7_digitRead_0 : decode cX7_digitRead 0 = .ok (.aload_n 0, 1) := by decide +kernel
theorem dX7_digitRead_1 : decode cX7_digitRead 1 = .ok (.invokevirtual 54, 3) := by decide +kernel
theorem dX7_digitRead_4 : decode cX7_digitRead 4 = .ok (.bipush 48, 2) := by decide +kernel
theorem dX7_digitRead_6 : decode cX7_digitRead 6 = .ok (.isub, 1) := by decide +kernel
theorem dX7_digitRead_7 : decode cX7_digitRead 7 = .ok (.istore_n 2, 1) := by decide +kernel
theorem dX7_digitRead_8 : decode cX7_digitRead 8 = .ok (.iload_n 2, 1) := by decide +kernel
theorem dX7_digitRead_9 : decode cX7_digitRead 9 = .ok (.iconst 1, 1) := by decide +kernel
theorem dX7_digitRead_10 : decode cX7_digitRead 10 = .ok (.iload_n 1, 1) := by decide +kernel
theorem dX7_digitRead_11 : decode cX7_digitRead 11 = .ok (.invokestatic 93, 3) := by decide +kernel
theorem dX7_digitRead_14 : decode cX7_digitRead 14 = .ok (.ifCond .ne 5, 3) := by decide +kernel
theorem dX7_digitRead_17 : decode cX7_digitRead 17 = .ok (.iconst (-1), 1) := by decide +kernel
theorem dX7_digitRead_18 : decode cX7_digitRead 18 = .ok (.ireturn, 1) := by decide +kernel
theorem dX7_digitRead_19 : decode cX7_digitRead 19 = .ok (.aload_n 0, 1) := by decide +kernel
theorem dX7_digitRead_20 : decode cX7_digitRead 20 = .ok (.dup, 1) := by decide +kernel
theorem dX7_digitRead_21 : decode cX7_digitRead 21 = .ok (.getfield 33, 3) := by decide +kernel
theorem dX7_digitRead_24 : decode cX7_digitRead 24 = .ok (.iconst 1, 1) := by decide +kernel
theorem dX7_digitRead_25 : decode cX7_digitRead 25 = .ok (.iadd, 1) := by decide +kernel
theorem dX7_digitRead_26 : decode cX7_digitRead 26 = .ok (.putfield 33, 3) := by decide +kernel
theorem dX7_digitRead_29 : decode cX7_digitRead 29 = .ok (.iload_n 2, 1) := by decide +kernel
theorem dX7_digitRead_30 : decode cX7_digitRead 30 = .ok (.ireturn, 1) := by decide +kernel
theorem dX7_numberRead_0 : decode cX7_numberRead 0 = .ok (.aload_n 0, 1) := by decide +kernel
theorem dX7_numberRead_1 : decode cX7_numberRead 1 = .ok (.invokevirtual 54, 3) := by decide +kernel
theorem dX7_numberRead_4 : decode cX7_numberRead 4 = .ok (.pop, 1) := by decide +kernel
theorem dX7_numberRead_5 : decode cX7_numberRead 5 = .ok (.aload_n 0, 1) := by decide +kernel
theorem dX7_numberRead_6 : decode cX7_numberRead 6 = .ok (.getfield 33, 3) := by decide +kernel
theorem dX7_numberRead_9 : decode cX7_numberRead 9 = .ok (.istore_n 3, 1) := by decide +kernel
theorem dX7_numberRead_10 : decode cX7_numberRead 10 = .ok (.iconst 0, 1) := by decide +kernel
theorem dX7_numberRead_11 : decode cX7_numberRead 11 = .ok (.istore 4, 2) := by decide +kernel
theorem dX7_numberRead_13 : decode cX7_numberRead 13 = .ok (.aload_n 0, 1) := by decide +kernel
theorem dX7_numberRead_14 : decode cX7_numberRead 14 = .ok (.getfield 33, 3) := by decide +kernel
theorem dX7_numberRead_17 : decode cX7_numberRead 17 = .ok (.aload_n 0, 1) := by decide +kernel
theorem dX7_numberRead_18 : decode cX7_numberRead 18 = .ok (.getfield 29, 3) := by decide +kernel
theorem dX7_numberRead_21 : decode cX7_numberRead 21 = .ok (.if_icmp .ge 61, 3) := by decide +kernel
theorem dX7_numberRead_24 : decode cX7_numberRead 24 = .ok (.aload_n 0, 1) := by decide +kernel
theorem dX7_numberRead_25 : decode cX7_numberRead 25 = .ok (.getfield 9, 3) := by decide +kernel
theorem dX7_numberRead_28 : decode cX7_numberRead 28 = .ok (.aload_n 0, 1) := by decide +kernel
theorem dX7_numberRead_29 : decode cX7_numberRead 29 = .ok (.getfield 33, 3) := by decide +kernel
theorem dX7_numberRead_32 : decode cX7_numberRead 32 = .ok (.caload, 1) := by decide +kernel
theorem dX7_numberRead_33 : decode cX7_numberRead 33 = .ok (.bipush 48, 2) := by decide +kernel
theorem dX7_numberRead_35 : decode cX7_numberRead 35 = .ok (.bipush 57, 2) := by decide +kernel
theorem dX7_numberRead_37 : decode cX7_numberRead 37 = .ok (.invokestatic 93, 3) := by decide +kernel
theorem dX7_numberRead_40 : decode cX7_numberRead 40 = .ok (.ifCond .eq 42, 3) := by decide +kernel
theorem dX7_numberRead_43 : decode cX7_numberRead 43 = .ok (.iload 4, 2) := by decide +kernel
theorem dX7_numberRead_45 : decode cX7_numberRead 45 = .ok (.bipush 10, 2) := by decide +kernel
theorem dX7_numberRead_47 : decode cX7_numberRead 47 = .ok (.imul, 1) := by decide +kernel
theorem dX7_numberRead_48 : decode cX7_numberRead 48 = .ok (.aload_n 0, 1) := by decide +kernel
theorem dX7_numberRead_49 : decode cX7_numberRead 49 = .ok (.getfield 9, 3) := by decide +kernel
theorem dX7_numberRead_52 : decode cX7_numberRead 52 = .ok (.aload_n 0, 1) := by decide +kernel
theorem dX7_numberRead_53 : decode cX7_numberRead 53 = .ok (.getfield 33, 3) := by decide +kernel
theorem dX7_numberRead_56 : decode cX7_numberRead 56 = .ok (.caload, 1) := by decide +kernel
theorem dX7_numberRead_57 : decode cX7_numberRead 57 = .ok (.iadd, 1) := by decide +kernel
theorem dX7_numberRead_58 : decode cX7_numberRead 58 = .ok (.bipush 48, 2) := by decide +kernel
theorem dX7_numberRead_60 : decode cX7_numberRead 60 = .ok (.isub, 1) := by decide +kernel
theorem dX7_numberRead_61 : decode cX7_numberRead 61 = .ok (.sipush 9999, 3) := by decide +kernel
theorem dX7_numberRead_64 : decode cX7_numberRead 64 = .ok (.invokestatic 97, 3) := by decide +kernel
theorem dX7_numberRead_67 : decode cX7_numberRead 67 = .ok (.istore 4, 2) := by decide +kernel
theorem dX7_numberRead_69 : decode cX7_numberRead 69 = .ok (.aload_n 0, 1) := by decide +kernel
theorem dX7_numberRead_70 : decode cX7_numberRead 70 = .ok (.dup, 1) := by decide +kernel
theorem dX7_numberRead_71 : decode cX7_numberRead 71 = .ok (.getfield 33, 3) := by decide +kernel
theorem dX7_numberRead_74 : decode cX7_numberRead 74 = .ok (.iconst 1, 1) := by decide +kernel
theorem dX7_numberRead_75 : decode cX7_numberRead 75 = .ok (.iadd, 1) := by decide +kernel
theorem dX7_numberRead_76 : decode cX7_numberRead 76 = .ok (.putfield 33, 3) := by decide +kernel
theorem dX7_numberRead_79 : decode cX7_numberRead 79 = .ok (.goto (-66), 3) := by decide +kernel
theorem dX7_numberRead_82 : decode cX7_numberRead 82 = .ok (.aload_n 0, 1) := by decide +kernel
theorem dX7_numberRead_83 : decode cX7_numberRead 83 = .ok (.getfield 33, 3) := by decide +kernel
theorem dX7_numberRead_86 : decode cX7_numberRead 86 = .ok (.iload_n 3, 1) := by decide +kernel
theorem dX7_numberRead_87 : decode cX7_numberRead 87 = .ok (.if_icmp .eq 13, 3) := by decide +kernel
theorem dX7_numberRead_90 : decode cX7_numberRead 90 = .ok (.iload 4, 2) := by decide +kernel
theorem dX7_numberRead_92 : decode cX7_numberRead 92 = .ok (.iload_n 1, 1) := by decide +kernel
theorem dX7_numberRead_93 : decode cX7_numberRead 93 = .ok (.iload_n 2, 1) := by decide +kernel
theorem dX7_numberRead_94 : decode cX7_numberRead 94 = .ok (.invokestatic 93, 3) := by decide +kernel
theorem dX7_numberRead_97 : decode cX7_numberRead 97 = .ok (.ifCond .ne 10, 3) := by decide +kernel
theorem dX7_numberRead_100 : decode cX7_numberRead 100 = .ok (.aload_n 0, 1) := by decide +kernel
theorem dX7_numberRead_101 : decode cX7_numberRead 101 = .ok (.iload_n 3, 1) := by decide +kernel
theorem dX7_numberRead_102 : decode cX7_numberRead 102 = .ok (.putfield 33, 3) := by decide +kernel
theorem dX7_numberRead_105 : decode cX7_numberRead 105 = .ok (.iconst (-1), 1) := by decide +kernel
theorem dX7_numberRead_106 : decode cX7_numberRead 106 = .ok (.ireturn, 1) := by decide +kernel
theorem dX7_numberRead_107 : decode cX7_numberRead 107 = .ok (.iload 4, 2) := by decide +kernel
theorem dX7_numberRead_109 : decode cX7_numberRead 109 = .ok (.ireturn, 1) := by decide +kernel
theorem dX8_init_0 : decode cX8_init 0 = .ok (.aload_n 0, 1) := by decide +kernel
theorem dX8_init_1 : decode cX8_init 1 = .ok (.invokespecial 3, 3) := by decide +kernel
theorem dX8_init_4 : decode cX8_init 4 = .ok (.aload_n 0, 1) := by decide +kernel
theorem dX8_init_5 : decode cX8_init 5 = .ok (.iconst (-1), 1) := by decide +kernel
theorem dX8_init_6 : decode cX8_init 6 = .ok (.putfield 9, 3) := by decide +kernel
theorem dX8_init_9 : decode cX8_init 9 = .ok (.return_, 1) := by decide +kernel
theorem dX8_take_0 : decode cX8_take 0 = .ok (.aload_n 0, 1) := by decide +kernel
theorem dX8_take_1 : decode cX8_take 1 = .ok (.aload_n 1, 1) := by decide +kernel
theorem dX8_take_2 : decode cX8_take 2 = .ok (.getfield 15, 3) := by decide +kernel
theorem dX8_take_5 : decode cX8_take 5 = .ok (.putfield 15, 3) := by decide +kernel
theorem dX8_take_8 : decode cX8_take 8 = .ok (.aload_n 0, 1) := by decide +kernel
theorem dX8_take_9 : decode cX8_take 9 = .ok (.aload_n 1, 1) := by decide +kernel
theorem dX8_take_10 : decode cX8_take 10 = .ok (.getfield 9, 3) := by decide +kernel
theorem dX8_take_13 : decode cX8_take 13 = .ok (.putfield 9, 3) := by decide +kernel
theorem dX8_take_16 : decode cX8_take 16 = .ok (.aload_n 0, 1) := by decide +kernel
theorem dX8_take_17 : decode cX8_take 17 = .ok (.aload_n 1, 1) := by decide +kernel
theorem dX8_take_18 : decode cX8_take 18 = .ok (.getfield 18, 3) := by decide +kernel
theorem dX8_take_21 : decode cX8_take 21 = .ok (.putfield 18, 3) := by decide +kernel
theorem dX8_take_24 : decode cX8_take 24 = .ok (.aload_n 0, 1) := by decide +kernel
theorem dX8_take_25 : decode cX8_take 25 = .ok (.aload_n 1, 1) := by decide +kernel
theorem dX8_take_26 : decode cX8_take 26 = .ok (.getfield 21, 3) := by decide +kernel
theorem dX8_take_29 : decode cX8_take 29 = .ok (.putfield 21, 3) := by decide +kernel
theorem dX8_take_32 : decode cX8_take 32 = .ok (.return_, 1) := by decide +kernel
theorem dX8_begin_0 : decode cX8_begin 0 = .ok (.aload_n 0, 1) := by decide +kernel
theorem dX8_begin_1 : decode cX8_begin 1 = .ok (.iload_n 1, 1) := by decide +kernel
theorem dX8_begin_2 : decode cX8_begin 2 = .ok (.putfield 9, 3) := by decide +kernel
theorem dX8_begin_5 : decode cX8_begin 5 = .ok (.aload_n 0, 1) := by decide +kernel
theorem dX8_begin_6 : decode cX8_begin 6 = .ok (.iconst 0, 1) := by decide +kernel
theorem dX8_begin_7 : decode cX8_begin 7 = .ok (.putfield 18, 3) := by decide +kernel
theorem dX8_begin_10 : decode cX8_begin 10 = .ok (.aload_n 0, 1) := by decide +kernel
theorem dX8_begin_11 : decode cX8_begin 11 = .ok (.iconst 0, 1) := by decide +kernel
theorem dX8_begin_12 : decode cX8_begin 12 = .ok (.putfield 21, 3) := by decide +kernel
theorem dX8_begin_15 : decode cX8_begin 15 = .ok (.return_, 1) := by decide +kernel
theorem dX9_init_0 : decode cX9_init 0 = .ok (.aload_n 0, 1) := by decide +kernel
theorem dX9_init_1 : decode cX9_init 1 = .ok (.invokespecial 3, 3) := by decide +kernel
theorem dX9_init_4 : decode cX9_init 4 = .ok (.aload_n 0, 1) := by decide +kernel
theorem dX9_init_5 : decode cX9_init 5 = .ok (.bipush 6, 2) := by decide +kernel
theorem dX9_init_7 : decode cX9_init 7 = .ok (.anewarray 9, 3) := by decide +kernel
theorem dX9_init_10 : decode cX9_init 10 = .ok (.putfield 11, 3) := by decide +kernel
theorem dX9_init_13 : decode cX9_init 13 = .ok (.aload_n 0, 1) := by decide +kernel
theorem dX9_init_14 : decode cX9_init 14 = .ok (.iconst 5, 1) := by decide +kernel
theorem dX9_init_15 : decode cX9_init 15 = .ok (.anewarray 17, 3) := by decide +kernel
theorem dX9_init_18 : decode cX9_init 18 = .ok (.putfield 19, 3) := by decide +kernel
theorem dX9_init_21 : decode cX9_init 21 = .ok (.aload_n 0, 1) := by decide +kernel
theorem dX9_init_22 : decode cX9_init 22 = .ok (.new 23, 3) := by decide +kernel
theorem dX9_init_25 : decode cX9_init 25 = .ok (.dup, 1) := by decide +kernel
theorem dX9_init_26 : decode cX9_init 26 = .ok (.invokespecial 25, 3) := by decide +kernel
theorem dX9_init_29 : decode cX9_init 29 = .ok (.putfield 26, 3) := by decide +kernel
theorem dX9_init_32 : decode cX9_init 32 = .ok (.aload_n 0, 1) := by decide +kernel
theorem dX9_init_33 : decode cX9_init 33 = .ok (.bipush 8, 2) := by decide +kernel
theorem dX9_init_35 : decode cX9_init 35 = .ok (.anewarray 23, 3) := by decide +kernel
theorem dX9_init_38 : decode cX9_init 38 = .ok (.putfield 30, 3) := by decide +kernel
theorem dX9_init_41 : decode cX9_init 41 = .ok (.aload_n 0, 1) := by decide +kernel
theorem dX9_init_42 : decode cX9_init 42 = .ok (.new 34, 3) := by decide +kernel
theorem dX9_init_45 : decode cX9_init 45 = .ok (.dup, 1) := by decide +kernel
theorem dX9_init_46 : decode cX9_init 46 = .ok (.invokespecial 36, 3) := by decide +kernel
theorem dX9_init_49 : decode cX9_init 49 = .ok (.putfield 37, 3) := by decide +kernel
theorem dX9_init_52 : decode cX9_init 52 = .ok (.aload_n 0, 1) := by decide +kernel
theorem dX9_init_53 : decode cX9_init 53 = .ok (.iconst 1, 1) := by decide +kernel
theorem dX9_init_54 : decode cX9_init 54 = .ok (.putfield 41, 3) := by decide +kernel
theorem dX9_init_57 : decode cX9_init 57 = .ok (.iconst 0, 1) := by decide +kernel
theorem dX9_init_58 : decode cX9_init 58 = .ok (.istore_n 1, 1) := by decide +kernel
theorem dX9_init_59 : decode cX9_init 59 = .ok (.iload_n 1, 1) := by decide +kernel
theorem dX9_init_60 : decode cX9_init 60 = .ok (.bipush 6, 2) := by decide +kernel
theorem dX9_init_62 : decode cX9_init 62 = .ok (.if_icmp .ge 22, 3) := by decide +kernel
theorem dX9_init_65 : decode cX9_init 65 = .ok (.aload_n 0, 1) := by decide +kernel
theorem dX9_init_66 : decode cX9_init 66 = .ok (.getfield 11, 3) := by decide +kernel
theorem dX9_init_69 : decode cX9_init 69 = .ok (.iload_n 1, 1) := by decide +kernel
theorem dX9_init_70 : decode cX9_init 70 = .ok (.new 9, 3) := by decide +kernel
theorem dX9_init_73 : decode cX9_init 73 = .ok (.dup, 1) := by decide +kernel
theorem dX9_init_74 : decode cX9_init 74 = .ok (.invokespecial 45, 3) := by decide +kernel
theorem dX9_init_77 : decode cX9_init 77 = .ok (.aastore, 1) := by decide +kernel
theorem dX9_init_78 : decode cX9_init 78 = .ok (.iinc 1 1, 3) := by decide +kernel
theorem dX9_init_81 : decode cX9_init 81 = .ok (.goto (-22), 3) := by decide +kernel
theorem dX9_init_84 : decode cX9_init 84 = .ok (.iconst 0, 1) := by decide +kernel
theorem dX9_init_85 : decode cX9_init 85 = .ok (.istore_n 1, 1) := by decide +kernel
theorem dX9_init_86 : decode cX9_init 86 = .ok (.iload_n 1, 1) := by decide +kernel
theorem dX9_init_87 : decode cX9_init 87 = .ok (.iconst 5, 1) := by decide +kernel
theorem dX9_init_88 : decode cX9_init 88 = .ok (.if_icmp .ge 22, 3) := by decide +kernel
theorem dX9_init_91 : decode cX9_init 91 = .ok (.aload_n 0, 1) := by decide +kernel
theorem dX9_init_92 : decode cX9_init 92 = .ok (.getfield 19, 3) := by decide +kernel
theorem dX9_init_95 : decode cX9_init 95 = .ok (.iload_n 1, 1) := by decide +kernel
theorem dX9_init_96 : decode cX9_init 96 = .ok (.new 17, 3) := by decide +kernel
theorem dX9_init_99 : decode cX9_init 99 = .ok (.dup, 1) := by decide +kernel
theorem dX9_init_100 : decode cX9_init 100 = .ok (.invokespecial 46, 3) := by decide +kernel
theorem dX9_init_103 : decode cX9_init 103 = .ok (.aastore, 1) := by decide +kernel
theorem dX9_init_104 : decode cX9_init 104 = .ok (.iinc 1 1, 3) := by decide +kernel
theorem dX9_init_107 : decode cX9_init 107 = .ok (.goto (-21), 3) := by decide +kernel
theorem dX9_init_110 : decode cX9_init 110 = .ok (.iconst 0, 1) := by decide +kernel
theorem dX9_init_111 : decode cX9_init 111 = .ok (.istore_n 1, 1) := by decide +kernel
theorem dX9_init_112 : decode cX9_init 112 = .ok (.iload_n 1, 1) := by decide +kernel
theorem dX9_init_113 : decode cX9_init 113 = .ok (.bipush 8, 2) := by decide +kernel
theorem dX9_init_115 : decode cX9_init 115 = .ok (.if_icmp .ge 22, 3) := by decide +kernel
theorem dX9_init_118 : decode cX9_init 118 = .ok (.aload_n 0, 1) := by decide +kernel
theorem dX9_init_119 : decode cX9_init 119 = .ok (.getfield 30, 3) := by decide +kernel
theorem dX9_init_122 : decode cX9_init 122 = .ok (.iload_n 1, 1) := by decide +kernel
theorem dX9_init_123 : decode cX9_init 123 = .ok (.new 23, 3) := by decide +kernel
theorem dX9_init_126 : decode cX9_init 126 = .ok (.dup, 1) := by decide +kernel
theorem dX9_init_127 : decode cX9_init 127 = .ok (.invokespecial 25, 3) := by decide +kernel
theorem dX9_init_130 : decode cX9_init 130 = .ok (.aastore, 1) := by decide +kernel
theorem dX9_init_131 : decode cX9_init 131 = .ok (.iinc 1 1, 3) := by decide +kernel
theorem dX9_init_134 : decode cX9_init 134 = .ok (.goto (-22), 3) := by decide +kernel
theorem dX9_init_137 : decode cX9_init 137 = .ok (.return_, 1) := by decide +kernel
theorem dX9_take_0 : decode cX9_take 0 = .ok (.aload_n 0, 1) := by decide +kernel
theorem dX9_take_1 : decode cX9_take 1 = .ok (.aload_n 1, 1) := by decide +kernel
theorem dX9_take_2 : decode cX9_take 2 = .ok (.getfield 11, 3) := by decide +kernel
theorem dX9_take_5 : decode cX9_take 5 = .ok (.aload_n 1, 1) := by decide +kernel
theorem dX9_take_6 : decode cX9_take 6 = .ok (.getfield 47, 3) := by decide +kernel
theorem dX9_take_9 : decode cX9_take 9 = .ok (.aload_n 1, 1) := by decide +kernel
theorem dX9_take_10 : decode cX9_take 10 = .ok (.getfield 19, 3) := by decide +kernel
theorem dX9_take_13 : decode cX9_take 13 = .ok (.aload_n 1, 1) := by decide +kernel
theorem dX9_take_14 : decode cX9_take 14 = .ok (.getfield 50, 3) := by decide +kernel
theorem dX9_take_17 : decode cX9_take 17 = .ok (.invokevirtual 53, 3) := by decide +kernel
theorem dX9_take_20 : decode cX9_take 20 = .ok (.aload_n 0, 1) := by decide +kernel
theorem dX9_take_21 : decode cX9_take 21 = .ok (.getfield 26, 3) := by decide +kernel
theorem dX9_take_24 : decode cX9_take 24 = .ok (.aload_n 1, 1) := by decide +kernel
theorem dX9_take_25 : decode cX9_take 25 = .ok (.getfield 26, 3) := by decide +kernel
theorem dX9_take_28 : decode cX9_take 28 = .ok (.invokevirtual 57, 3) := by decide +kernel
theorem dX9_take_31 : decode cX9_take 31 = .ok (.iconst 0, 1) := by decide +kernel
theorem dX9_take_32 : decode cX9_take 32 = .ok (.istore_n 2, 1) := by decide +kernel
theorem dX9_take_33 : decode cX9_take 33 = .ok (.iload_n 2, 1) := by decide +kernel
theorem dX9_take_34 : decode cX9_take 34 = .ok (.bipush 8, 2) := by decide +kernel
theorem dX9_take_36 : decode cX9_take 36 = .ok (.if_icmp .ge 24, 3) := by decide +kernel
theorem dX9_take_39 : decode cX9_take 39 = .ok (.aload_n 0, 1) := by decide +kernel
theorem dX9_take_40 : decode cX9_take 40 = .ok (.getfield 30, 3) := by decide +kernel
theorem dX9_take_43 : decode cX9_take 43 = .ok (.iload_n 2, 1) := by decide +kernel
theorem dX9_take_44 : decode cX9_take 44 = .ok (.aaload, 1) := by decide +kernel
theorem dX9_take_45 : decode cX9_take 45 = .ok (.aload_n 1, 1) := by decide +kernel
theorem dX9_take_46 : decode cX9_take 46 = .ok (.getfield 30, 3) := by decide +kernel
theorem dX9_take_49 : decode cX9_take 49 = .ok (.iload_n 2, 1) := by decide +kernel
theorem dX9_take_50 : decode cX9_take 50 = .ok (.aaload, 1) := by decide +kernel
theorem dX9_take_51 : decode cX9_take 51 = .ok (.invokevirtual 57, 3) := by decide +kernel
theorem dX9_take_54 : decode cX9_take 54 = .ok (.iinc 2 1, 3) := by decide +kernel
theorem dX9_take_57 : decode cX9_take 57 = .ok (.goto (-24), 3) := by decide +kernel
theorem dX9_take_60 : decode cX9_take 60 = .ok (.aload_n 0, 1) := by decide +kernel
theorem dX9_take_61 : decode cX9_take 61 = .ok (.aload_n 1, 1) := by decide +kernel
theorem dX9_take_62 : decode cX9_take 62 = .ok (.getfield 61, 3) := by decide +kernel
theorem dX9_take_65 : decode cX9_take 65 = .ok (.putfield 61, 3) := by decide +kernel
theorem dX9_take_68 : decode cX9_take 68 = .ok (.aload_n 0, 1) := by decide +kernel
theorem dX9_take_69 : decode cX9_take 69 = .ok (.aload_n 1, 1) := by decide +kernel
theorem dX9_take_70 : decode cX9_take 70 = .ok (.getfield 41, 3) := by decide +kernel
theorem dX9_take_73 : decode cX9_take 73 = .ok (.putfield 41, 3) := by decide +kernel
theorem dX9_take_76 : decode cX9_take 76 = .ok (.aload_n 0, 1) := by decide +kernel
theorem dX9_take_77 : decode cX9_take 77 = .ok (.getfield 37, 3) := by decide +kernel
theorem dX9_take_80 : decode cX9_take 80 = .ok (.aload_n 1, 1) := by decide +kernel
theorem dX9_take_81 : decode cX9_take 81 = .ok (.getfield 37, 3) := by decide +kernel
theorem dX9_take_84 : decode cX9_take 84 = .ok (.invokevirtual 64, 3) := by decide +kernel
theorem dX9_take_87 : decode cX9_take 87 = .ok (.return_, 1) := by decide +kernel
theorem dX9_settle_0 : decode cX9_settle 0 = .ok (.aload_n 0, 1) := by decide +kernel
theorem dX9_settle_1 : decode cX9_settle 1 = .ok (.aload_n 1, 1) := by decide +kernel
theorem dX9_settle_2 : decode cX9_settle 2 = .ok (.getfield 67, 3) := by decide +kernel
theorem dX9_settle_5 : decode cX9_settle 5 = .ok (.aload_n 1, 1) := by decide +kernel
theorem dX9_settle_6 : decode cX9_settle 6 = .ok (.getfield 70, 3) := by decide +kernel
theorem dX9_settle_9 : decode cX9_settle 9 = .ok (.aload_n 1, 1) := by decide +kernel
theorem dX9_settle_10 : decode cX9_settle 10 = .ok (.getfield 71, 3) := by decide +kernel
theorem dX9_settle_13 : decode cX9_settle 13 = .ok (.aload_n 1, 1) := by decide +kernel
theorem dX9_settle_14 : decode cX9_settle 14 = .ok (.getfield 72, 3) := by decide +kernel
theorem dX9_settle_17 : decode cX9_settle 17 = .ok (.invokevirtual 53, 3) := by decide +kernel
theorem dX9_settle_20 : decode cX9_settle 20 = .ok (.aload_n 0, 1) := by decide +kernel
theorem dX9_settle_21 : decode cX9_settle 21 = .ok (.getfield 26, 3) := by decide +kernel
theorem dX9_settle_24 : decode cX9_settle 24 = .ok (.iconst (-1), 1) := by decide +kernel
theorem dX9_settle_25 : decode cX9_settle 25 = .ok (.invokevirtual 73, 3) := by decide +kernel
theorem dX9_settle_28 : decode cX9_settle 28 = .ok (.aload_n 0, 1) := by decide +kernel
theorem dX9_settle_29 : decode cX9_settle 29 = .ok (.iconst 0, 1) := by decide +kernel
theorem dX9_settle_30 : decode cX9_settle 30 = .ok (.putfield 61, 3) := by decide +kernel
theorem dX9_settle_33 : decode cX9_settle 33 = .ok (.return_, 1) := by decide +kernel
theorem dX9_takePairsAndShips_0 : decode cX9_takePairsAndShips 0 = .ok (.iconst 0, 1) := by decide +kernel
theorem dX9_takePairsAndShips_1 : decode cX9_takePairsAndShips 1 = .ok (.istore 5, 2) := by decide +kernel
theorem dX9_takePairsAndShips_3 : decode cX9_takePairsAndShips 3 = .ok (.iload 5, 2) := by decide +kernel
theorem dX9_takePairsAndShips_5 : decode cX9_takePairsAndShips 5 = .ok (.iload_n 2, 1) := by decide +kernel
theorem dX9_takePairsAndShips_6 : decode cX9_takePairsAndShips 6 = .ok (.if_icmp .ge 30, 3) := by decide +kernel
theorem dX9_takePairsAndShips_9 : decode cX9_takePairsAndShips 9 = .ok (.iload 5, 2) := by decide +kernel
theorem dX9_takePairsAndShips_11 : decode cX9_takePairsAndShips 11 = .ok (.bipush 6, 2) := by decide +kernel
theorem dX9_takePairsAndShips_13 : decode cX9_takePairsAndShips 13 = .ok (.if_icmp .ge 23, 3) := by decide +kernel
theorem dX9_takePairsAndShips_16 : decode cX9_takePairsAndShips 16 = .ok (.aload_n 0, 1) := by decide +kernel
theorem dX9_takePairsAndShips_17 : decode cX9_takePairsAndShips 17 = .ok (.getfield 11, 3) := by decide +kernel
theorem dX9_takePairsAndShips_20 : decode cX9_takePairsAndShips 20 = .ok (.iload 5, 2) := by decide +kernel
theorem dX9_takePairsAndShips_22 : decode cX9_takePairsAndShips 22 = .ok (.aaload, 1) := by decide +kernel
theorem dX9_takePairsAndShips_23 : decode cX9_takePairsAndShips 23 = .ok (.aload_n 1, 1) := by decide +kernel
theorem dX9_takePairsAndShips_24 : decode cX9_takePairsAndShips 24 = .ok (.iload 5, 2) := by decide +kernel
theorem dX9_takePairsAndShips_26 : decode cX9_takePairsAndShips 26 = .ok (.aaload, 1) := by decide +kernel
theorem dX9_takePairsAndShips_27 : decode cX9_takePairsAndShips 27 = .ok (.invokevirtual 77, 3) := by decide +kernel
theorem dX9_takePairsAndShips_30 : decode cX9_takePairsAndShips 30 = .ok (.iinc 5 1, 3) := by decide +kernel
theorem dX9_takePairsAndShips_33 : decode cX9_takePairsAndShips 33 = .ok (.goto (-30), 3) := by decide +kernel
theorem dX9_takePairsAndShips_36 : decode cX9_takePairsAndShips 36 = .ok (.iconst 0, 1) := by decide +kernel
theorem dX9_takePairsAndShips_37 : decode cX9_takePairsAndShips 37 = .ok (.istore 5, 2) := by decide +kernel
theorem dX9_takePairsAndShips_39 : decode cX9_takePairsAndShips 39 = .ok (.iload 5, 2) := by decide +kernel
theorem dX9_takePairsAndShips_41 : decode cX9_takePairsAndShips 41 = .ok (.iload 4, 2) := by decide +kernel
theorem dX9_takePairsAndShips_43 : decode cX9_takePairsAndShips 43 = .ok (.if_icmp .ge 29, 3) := by decide +kernel
theorem dX9_takePairsAndShips_46 : decode cX9_takePairsAndShips 46 = .ok (.iload 5, 2) := by decide +kernel
theorem dX9_takePairsAndShips_48 : decode cX9_takePairsAndShips 48 = .ok (.iconst 5, 1) := by decide +kernel
theorem dX9_takePairsAndShips_49 : decode cX9_takePairsAndShips 49 = .ok (.if_icmp .ge 23, 3) := by decide +kernel
theorem dX9_takePairsAndShips_52 : decode cX9_takePairsAndShips 52 = .ok (.aload_n 0, 1) := by decide +kernel
theorem dX9_takePairsAndShips_53 : decode cX9_takePairsAndShips 53 = .ok (.getfield 19, 3) := by decide +kernel
theorem dX9_takePairsAndShips_56 : decode cX9_takePairsAndShips 56 = .ok (.iload 5, 2) := by decide +kernel
theorem dX9_takePairsAndShips_58 : decode cX9_takePairsAndShips 58 = .ok (.aaload, 1) := by decide +kernel
theorem dX9_takePairsAndShips_59 : decode cX9_takePairsAndShips 59 = .ok (.aload_n 3, 1) := by decide +kernel
theorem dX9_takePairsAndShips_60 : decode cX9_takePairsAndShips 60 = .ok (.iload 5, 2) := by decide +kernel
theorem dX9_takePairsAndShips_62 : decode cX9_takePairsAndShips 62 = .ok (.aaload, 1) := by decide +kernel
theorem dX9_takePairsAndShips_63 : decode cX9_takePairsAndShips 63 = .ok (.invokevirtual 80, 3) := by decide +kernel
theorem dX9_takePairsAndShips_66 : decode cX9_takePairsAndShips 66 = .ok (.iinc 5 1, 3) := by decide +kernel
theorem dX9_takePairsAndShips_69 : decode cX9_takePairsAndShips 69 = .ok (.goto (-30), 3) := by decide +kernel
theorem dX9_takePairsAndShips_72 : decode cX9_takePairsAndShips 72 = .ok (.aload_n 0, 1) := by decide +kernel
theorem dX9_takePairsAndShips_73 : decode cX9_takePairsAndShips 73 = .ok (.iload_n 2, 1) := by decide +kernel
theorem dX9_takePairsAndShips_74 : decode cX9_takePairsAndShips 74 = .ok (.putfield 47, 3) := by decide +kernel
theorem dX9_takePairsAndShips_77 : decode cX9_takePairsAndShips 77 = .ok (.aload_n 0, 1) := by decide +kernel
theorem dX9_takePairsAndShips_78 : decode cX9_takePairsAndShips 78 = .ok (.iload 4, 2) := by decide +kernel
theorem dX9_takePairsAndShips_80 : decode cX9_takePairsAndShips 80 = .ok (.putfield 50, 3) := by decide +kernel
theorem dX9_takePairsAndShips_83 : decode cX9_takePairsAndShips 83 = .ok (.return_, 1) := by decide +kernel
theorem dX9_remember_0 : decode cX9_remember 0 = .ok (.aload_n 0, 1) := by decide +kernel
theorem dX9_remember_1 : decode cX9_remember 1 = .ok (.getfield 61, 3) := by decide +kernel
theorem dX9_remember_4 : decode cX9_remember 4 = .ok (.bipush 8, 2) := by decide +kernel
theorem dX9_remember_6 : decode cX9_remember 6 = .ok (.if_icmp .lt 40, 3) := by decide +kernel
theorem dX9_remember_9 : decode cX9_remember 9 = .ok (.iconst 1, 1) := by decide +kernel
theorem dX9_remember_10 : decode cX9_remember 10 = .ok (.istore_n 1, 1) := by decide +kernel
theorem dX9_remember_11 : decode cX9_remember 11 = .ok (.iload_n 1, 1) := by decide +kernel
theorem dX9_remember_12 : decode cX9_remember 12 = .ok (.bipush 8, 2) := by decide +kernel
theorem dX9_remember_14 : decode cX9_remember 14 = .ok (.if_icmp .ge 26, 3) := by decide +kernel
theorem dX9_remember_17 : decode cX9_remember 17 = .ok (.aload_n 0, 1) := by decide +kernel
theorem dX9_remember_18 : decode cX9_remember 18 = .ok (.getfield 30, 3) := by decide +kernel
theorem dX9_remember_21 : decode cX9_remember 21 = .ok (.iload_n 1, 1) := by decide +kernel
theorem dX9_remember_22 : decode cX9_remember 22 = .ok (.iconst 1, 1) := by decide +kernel
theorem dX9_remember_23 : decode cX9_remember 23 = .ok (.isub, 1) := by decide +kernel
theorem dX9_remember_24 : decode cX9_remember 24 = .ok (.aaload, 1) := by decide +kernel
theorem dX9_remember_25 : decode cX9_remember 25 = .ok (.aload_n 0, 1) := by decide +kernel
theorem dX9_remember_26 : decode cX9_remember 26 = .ok (.getfield 30, 3) := by decide +kernel
theorem dX9_remember_29 : decode cX9_remember 29 = .ok (.iload_n 1, 1) := by decide +kernel
theorem dX9_remember_30 : decode cX9_remember 30 = .ok (.aaload, 1) := by decide +kernel
theorem dX9_remember_31 : decode cX9_remember 31 = .ok (.invokevirtual 57, 3) := by decide +kernel
theorem dX9_remember_34 : decode cX9_remember 34 = .ok (.iinc 1 1, 3) := by decide +kernel
theorem dX9_remember_37 : decode cX9_remember 37 = .ok (.goto (-26), 3) := by decide +kernel
theorem dX9_remember_40 : decode cX9_remember 40 = .ok (.aload_n 0, 1) := by decide +kernel
theorem dX9_remember_41 : decode cX9_remember 41 = .ok (.bipush 7, 2) := by decide +kernel
theorem dX9_remember_43 : decode cX9_remember 43 = .ok (.putfield 61, 3) := by decide +kernel
theorem dX9_remember_46 : decode cX9_remember 46 = .ok (.aload_n 0, 1) := by decide +kernel
theorem dX9_remember_47 : decode cX9_remember 47 = .ok (.getfield 30, 3) := by decide +kernel
theorem dX9_remember_50 : decode cX9_remember 50 = .ok (.aload_n 0, 1) := by decide +kernel
theorem dX9_remember_51 : decode cX9_remember 51 = .ok (.getfield 61, 3) := by decide +kernel
theorem dX9_remember_54 : decode cX9_remember 54 = .ok (.aaload, 1) := by decide +kernel
theorem dX9_remember_55 : decode cX9_remember 55 = .ok (.aload_n 0, 1) := by decide +kernel
theorem dX9_remember_56 : decode cX9_remember 56 = .ok (.getfield 26, 3) := by decide +kernel
theorem dX9_remember_59 : decode cX9_remember 59 = .ok (.invokevirtual 57, 3) := by decide +kernel
theorem dX9_remember_62 : decode cX9_remember 62 = .ok (.aload_n 0, 1) := by decide +kernel
theorem dX9_remember_63 : decode cX9_remember 63 = .ok (.dup, 1) := by decide +kernel
theorem dX9_remember_64 : decode cX9_remember 64 = .ok (.getfield 61, 3) := by decide +kernel
theorem dX9_remember_67 : decode cX9_remember 67 = .ok (.iconst 1, 1) := by decide +kernel
theorem dX9_remember_68 : decode cX9_remember 68 = .ok (.iadd, 1) := by decide +kernel
theorem dX9_remember_69 : decode cX9_remember 69 = .ok (.putfield 61, 3) := by decide +kernel
theorem dX9_remember_72 : decode cX9_remember 72 = .ok (.return_, 1) := by decide +kernel
theorem dX9_recall_0 : decode cX9_recall 0 = .ok (.aload_n 0, 1) := by decide +kernel
theorem dX9_recall_1 : decode cX9_recall 1 = .ok (.getfield 61, 3) := by decide +kernel
theorem dX9_recall_4 : decode cX9_recall 4 = .ok (.ifCond .gt 5, 3) := by decide +kernel
theorem dX9_recall_7 : decode cX9_recall 7 = .ok (.iconst 0, 1) := by decide +kernel
theorem dX9_recall_8 : decode cX9_recall 8 = .ok (.ireturn, 1) := by decide +kernel
theorem dX9_recall_9 : decode cX9_recall 9 = .ok (.aload_n 0, 1) := by decide +kernel
theorem dX9_recall_10 : decode cX9_recall 10 = .ok (.dup, 1) := by decide +kernel
theorem dX9_recall_11 : decode cX9_recall 11 = .ok (.getfield 61, 3) := by decide +kernel
theorem dX9_recall_14 : decode cX9_recall 14 = .ok (.iconst 1, 1) := by decide +kernel
theorem dX9_recall_15 : decode cX9_recall 15 = .ok (.isub, 1) := by decide +kernel
theorem dX9_recall_16 : decode cX9_recall 16 = .ok (.putfield 61, 3) := by decide +kernel
theorem dX9_recall_19 : decode cX9_recall 19 = .ok (.aload_n 0, 1) := by decide +kernel
theorem dX9_recall_20 : decode cX9_recall 20 = .ok (.getfield 26, 3) := by decide +kernel
theorem dX9_recall_23 : decode cX9_recall 23 = .ok (.aload_n 0, 1) := by decide +kernel
theorem dX9_recall_24 : decode cX9_recall 24 = .ok (.getfield 30, 3) := by decide +kernel
theorem dX9_recall_27 : decode cX9_recall 27 = .ok (.aload_n 0, 1) := by decide +kernel
theorem dX9_recall_28 : decode cX9_recall 28 = .ok (.getfield 61, 3) := by decide +kernel
theorem dX9_recall_31 : decode cX9_recall 31 = .ok (.aaload, 1) := by decide +kernel
theorem dX9_recall_32 : decode cX9_recall 32 = .ok (.invokevirtual 57, 3) := by decide +kernel
theorem dX9_recall_35 : decode cX9_recall 35 = .ok (.iconst 1, 1) := by decide +kernel
theorem dX9_recall_36 : decode cX9_recall 36 = .ok (.ireturn, 1) := by decide +kernel
theorem dX9_drawn_0 : decode cX9_drawn 0 = .ok (.aload_n 0, 1) := by decide +kernel
theorem dX9_drawn_1 : decode cX9_drawn 1 = .ok (.aload_n 0, 1) := by decide +kernel
theorem dX9_drawn_2 : decode cX9_drawn 2 = .ok (.getfield 41, 3) := by decide +kernel
theorem dX9_drawn_5 : decode cX9_drawn 5 = .ok (.ldc 83, 2) := by decide +kernel
theorem dX9_drawn_7 : decode cX9_drawn 7 = .ok (.imul, 1) := by decide +kernel
theorem dX9_drawn_8 : decode cX9_drawn 8 = .ok (.sipush 12345, 3) := by decide +kernel
theorem dX9_drawn_11 : decode cX9_drawn 11 = .ok (.iadd, 1) := by decide +kernel
theorem dX9_drawn_12 : decode cX9_drawn 12 = .ok (.ldc 84, 2) := by decide +kernel
theorem dX9_drawn_14 : decode cX9_drawn 14 = .ok (.iand, 1) := by decide +kernel
theorem dX9_drawn_15 : decode cX9_drawn 15 = .ok (.putfield 41, 3) := by decide +kernel
theorem dX9_drawn_18 : decode cX9_drawn 18 = .ok (.aload_n 0, 1) := by decide +kernel
theorem dX9_drawn_19 : decode cX9_drawn 19 = .ok (.getfield 41, 3) := by decide +kernel
theorem dX9_drawn_22 : decode cX9_drawn 22 = .ok (.ldc 85, 2) := by decide +kernel
theorem dX9_drawn_24 : decode cX9_drawn 24 = .ok (.idiv, 1) := by decide +kernel
theorem dX9_drawn_25 : decode cX9_drawn 25 = .ok (.ireturn, 1) := by decide +kernel
