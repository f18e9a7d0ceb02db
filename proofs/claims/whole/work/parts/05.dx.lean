theorem dX10_init_0 : decode cX10_init 0 = .ok (.aload_n 0, 1) := by decide +kernel
theorem dX10_init_1 : decode cX10_init 1 = .ok (.invokespecial 3, 3) := by decide +kernel
theorem dX10_init_4 : decode cX10_init 4 = .ok (.aload_n 0, 1) := by decide +kernel
theorem dX10_init_5 : decode cX10_init 5 = .ok (.new 9, 3) := by decide +kernel
theorem dX10_init_8 : decode cX10_init 8 = .ok (.dup, 1) := by decide +kernel
theorem dX10_init_9 : decode cX10_init 9 = .ok (.invokespecial 11, 3) := by decide +kernel
theorem dX10_init_12 : decode cX10_init 12 = .ok (.putfield 12, 3) := by decide +kernel
theorem dX10_init_15 : decode cX10_init 15 = .ok (.aload_n 0, 1) := by decide +kernel
theorem dX10_init_16 : decode cX10_init 16 = .ok (.new 9, 3) := by decide +kernel
theorem dX10_init_19 : decode cX10_init 19 = .ok (.dup, 1) := by decide +kernel
theorem dX10_init_20 : decode cX10_init 20 = .ok (.invokespecial 11, 3) := by decide +kernel
theorem dX10_init_23 : decode cX10_init 23 = .ok (.putfield 16, 3) := by decide +kernel
theorem dX10_init_26 : decode cX10_init 26 = .ok (.aload_n 0, 1) := by decide +kernel
theorem dX10_init_27 : decode cX10_init 27 = .ok (.new 19, 3) := by decide +kernel
theorem dX10_init_30 : decode cX10_init 30 = .ok (.dup, 1) := by decide +kernel
theorem dX10_init_31 : decode cX10_init 31 = .ok (.invokespecial 21, 3) := by decide +kernel
theorem dX10_init_34 : decode cX10_init 34 = .ok (.putfield 22, 3) := by decide +kernel
theorem dX10_init_37 : decode cX10_init 37 = .ok (.aload_n 0, 1) := by decide +kernel
theorem dX10_init_38 : decode cX10_init 38 = .ok (.new 26, 3) := by decide +kernel
theorem dX10_init_41 : decode cX10_init 41 = .ok (.dup, 1) := by decide +kernel
theorem dX10_init_42 : decode cX10_init 42 = .ok (.invokespecial 28, 3) := by decide +kernel
theorem dX10_init_45 : decode cX10_init 45 = .ok (.putfield 29, 3) := by decide +kernel
theorem dX10_init_48 : decode cX10_init 48 = .ok (.aload_n 0, 1) := by decide +kernel
theorem dX10_init_49 : decode cX10_init 49 = .ok (.new 33, 3) := by decide +kernel
theorem dX10_init_52 : decode cX10_init 52 = .ok (.dup, 1) := by decide +kernel
theorem dX10_init_53 : decode cX10_init 53 = .ok (.invokespecial 35, 3) := by decide +kernel
theorem dX10_init_56 : decode cX10_init 56 = .ok (.putfield 36, 3) := by decide +kernel
theorem dX10_init_59 : decode cX10_init 59 = .ok (.aload_n 0, 1) := by decide +kernel
theorem dX10_init_60 : decode cX10_init 60 = .ok (.new 40, 3) := by decide +kernel
theorem dX10_init_63 : decode cX10_init 63 = .ok (.dup, 1) := by decide +kernel
theorem dX10_init_64 : decode cX10_init 64 = .ok (.invokespecial 42, 3) := by decide +kernel
theorem dX10_init_67 : decode cX10_init 67 = .ok (.putfield 43, 3) := by decide +kernel
theorem dX10_init_70 : decode cX10_init 70 = .ok (.aload_n 0, 1) := by decide +kernel
theorem dX10_init_71 : decode cX10_init 71 = .ok (.iconst 4, 1) := by decide +kernel
theorem dX10_init_72 : decode cX10_init 72 = .ok (.anewarray 47, 3) := by decide +kernel
theorem dX10_init_75 : decode cX10_init 75 = .ok (.putfield 49, 3) := by decide +kernel
theorem dX10_init_78 : decode cX10_init 78 = .ok (.iconst 0, 1) := by decide +kernel
theorem dX10_init_79 : decode cX10_init 79 = .ok (.istore_n 1, 1) := by decide +kernel
theorem dX10_init_80 : decode cX10_init 80 = .ok (.iload_n 1, 1) := by decide +kernel
theorem dX10_init_81 : decode cX10_init 81 = .ok (.iconst 4, 1) := by decide +kernel
theorem dX10_init_82 : decode cX10_init 82 = .ok (.if_icmp .ge 22, 3) := by decide +kernel
theorem dX10_init_85 : decode cX10_init 85 = .ok (.aload_n 0, 1) := by decide +kernel
theorem dX10_init_86 : decode cX10_init 86 = .ok (.getfield 49, 3) := by decide +kernel
theorem dX10_init_89 : decode cX10_init 89 = .ok (.iload_n 1, 1) := by decide +kernel
theorem dX10_init_90 : decode cX10_init 90 = .ok (.new 47, 3) := by decide +kernel
theorem dX10_init_93 : decode cX10_init 93 = .ok (.dup, 1) := by decide +kernel
theorem dX10_init_94 : decode cX10_init 94 = .ok (.invokespecial 53, 3) := by decide +kernel
theorem dX10_init_97 : decode cX10_init 97 = .ok (.aastore, 1) := by decide +kernel
theorem dX10_init_98 : decode cX10_init 98 = .ok (.iinc 1 1, 3) := by decide +kernel
theorem dX10_init_101 : decode cX10_init 101 = .ok (.goto (-21), 3) := by decide +kernel
theorem dX10_init_104 : decode cX10_init 104 = .ok (.return_, 1) := by decide +kernel
theorem dX10_pair_0 : decode cX10_pair 0 = .ok (.iload_n 1, 1) := by decide +kernel
theorem dX10_pair_1 : decode cX10_pair 1 = .ok (.iconst 0, 1) := by decide +kernel
theorem dX10_pair_2 : decode cX10_pair 2 = .ok (.iconst 3, 1) := by decide +kernel
theorem dX10_pair_3 : decode cX10_pair 3 = .ok (.invokestatic 54, 3) := by decide +kernel
theorem dX10_pair_6 : decode cX10_pair 6 = .ok (.ifCond .eq 33, 3) := by decide +kernel
theorem dX10_pair_9 : decode cX10_pair 9 = .ok (.iload_n 2, 1) := by decide +kernel
theorem dX10_pair_10 : decode cX10_pair 10 = .ok (.iconst 1, 1) := by decide +kernel
theorem dX10_pair_11 : decode cX10_pair 11 = .ok (.bipush 30, 2) := by decide +kernel
theorem dX10_pair_13 : decode cX10_pair 13 = .ok (.invokestatic 54, 3) := by decide +kernel
theorem dX10_pair_16 : decode cX10_pair 16 = .ok (.ifCond .eq 23, 3) := by decide +kernel
theorem dX10_pair_19 : decode cX10_pair 19 = .ok (.iload_n 3, 1) := by decide +kernel
theorem dX10_pair_20 : decode cX10_pair 20 = .ok (.iconst 2, 1) := by decide +kernel
theorem dX10_pair_21 : decode cX10_pair 21 = .ok (.bipush 24, 2) := by decide +kernel
theorem dX10_pair_23 : decode cX10_pair 23 = .ok (.invokestatic 54, 3) := by decide +kernel
theorem dX10_pair_26 : decode cX10_pair 26 = .ok (.ifCond .eq 13, 3) := by decide +kernel
theorem dX10_pair_29 : decode cX10_pair 29 = .ok (.iload 4, 2) := by decide +kernel
theorem dX10_pair_31 : decode cX10_pair 31 = .ok (.iconst 1, 1) := by decide +kernel
theorem dX10_pair_32 : decode cX10_pair 32 = .ok (.iload_n 3, 1) := by decide +kernel
theorem dX10_pair_33 : decode cX10_pair 33 = .ok (.invokestatic 54, 3) := by decide +kernel
theorem dX10_pair_36 : decode cX10_pair 36 = .ok (.ifCond .ne 5, 3) := by decide +kernel
theorem dX10_pair_39 : decode cX10_pair 39 = .ok (.iconst (-1), 1) := by decide +kernel
theorem dX10_pair_40 : decode cX10_pair 40 = .ok (.ireturn, 1) := by decide +kernel
theorem dX10_pair_41 : decode cX10_pair 41 = .ok (.aload_n 0, 1) := by decide +kernel
theorem dX10_pair_42 : decode cX10_pair 42 = .ok (.getfield 12, 3) := by decide +kernel
theorem dX10_pair_45 : decode cX10_pair 45 = .ok (.getfield 58, 3) := by decide +kernel
theorem dX10_pair_48 : decode cX10_pair 48 = .ok (.bipush 6, 2) := by decide +kernel
theorem dX10_pair_50 : decode cX10_pair 50 = .ok (.if_icmp .lt 6, 3) := by decide +kernel
theorem dX10_pair_53 : decode cX10_pair 53 = .ok (.bipush (-3), 2) := by decide +kernel
theorem dX10_pair_55 : decode cX10_pair 55 = .ok (.ireturn, 1) := by decide +kernel
theorem dX10_pair_56 : decode cX10_pair 56 = .ok (.aload_n 0, 1) := by decide +kernel
theorem dX10_pair_57 : decode cX10_pair 57 = .ok (.getfield 12, 3) := by decide +kernel
theorem dX10_pair_60 : decode cX10_pair 60 = .ok (.getfield 62, 3) := by decide +kernel
theorem dX10_pair_63 : decode cX10_pair 63 = .ok (.aload_n 0, 1) := by decide +kernel
theorem dX10_pair_64 : decode cX10_pair 64 = .ok (.getfield 12, 3) := by decide +kernel
theorem dX10_pair_67 : decode cX10_pair 67 = .ok (.getfield 58, 3) := by decide +kernel
theorem dX10_pair_70 : decode cX10_pair 70 = .ok (.aaload, 1) := by decide +kernel
theorem dX10_pair_71 : decode cX10_pair 71 = .ok (.iload_n 1, 1) := by decide +kernel
theorem dX10_pair_72 : decode cX10_pair 72 = .ok (.iload_n 2, 1) := by decide +kernel
theorem dX10_pair_73 : decode cX10_pair 73 = .ok (.iload_n 3, 1) := by decide +kernel
theorem dX10_pair_74 : decode cX10_pair 74 = .ok (.iload 4, 2) := by decide +kernel
theorem dX10_pair_76 : decode cX10_pair 76 = .ok (.invokevirtual 66, 3) := by decide +kernel
theorem dX10_pair_79 : decode cX10_pair 79 = .ok (.aload_n 0, 1) := by decide +kernel
theorem dX10_pair_80 : decode cX10_pair 80 = .ok (.getfield 12, 3) := by decide +kernel
theorem dX10_pair_83 : decode cX10_pair 83 = .ok (.dup, 1) := by decide +kernel
theorem dX10_pair_84 : decode cX10_pair 84 = .ok (.getfield 58, 3) := by decide +kernel
theorem dX10_pair_87 : decode cX10_pair 87 = .ok (.dup_x1, 1) := by decide +kernel
theorem dX10_pair_88 : decode cX10_pair 88 = .ok (.iconst 1, 1) := by decide +kernel
theorem dX10_pair_89 : decode cX10_pair 89 = .ok (.iadd, 1) := by decide +kernel
theorem dX10_pair_90 : decode cX10_pair 90 = .ok (.putfield 58, 3) := by decide +kernel
theorem dX10_pair_93 : decode cX10_pair 93 = .ok (.ireturn, 1) := by decide +kernel
theorem dX10_phase_0 : decode cX10_phase 0 = .ok (.aload_n 0, 1) := by decide +kernel
theorem dX10_phase_1 : decode cX10_phase 1 = .ok (.iload_n 1, 1) := by decide +kernel
theorem dX10_phase_2 : decode cX10_phase 2 = .ok (.invokevirtual 72, 3) := by decide +kernel
theorem dX10_phase_5 : decode cX10_phase 5 = .ok (.ifCond .eq 25, 3) := by decide +kernel
theorem dX10_phase_8 : decode cX10_phase 8 = .ok (.iload_n 2, 1) := by decide +kernel
theorem dX10_phase_9 : decode cX10_phase 9 = .ok (.iconst 0, 1) := by decide +kernel
theorem dX10_phase_10 : decode cX10_phase 10 = .ok (.aload_n 0, 1) := by decide +kernel
theorem dX10_phase_11 : decode cX10_phase 11 = .ok (.getfield 12, 3) := by decide +kernel
theorem dX10_phase_14 : decode cX10_phase 14 = .ok (.getfield 62, 3) := by decide +kernel
theorem dX10_phase_17 : decode cX10_phase 17 = .ok (.iload_n 1, 1) := by decide +kernel
theorem dX10_phase_18 : decode cX10_phase 18 = .ok (.aaload, 1) := by decide +kernel
theorem dX10_phase_19 : decode cX10_phase 19 = .ok (.getfield 76, 3) := by decide +kernel
theorem dX10_phase_22 : decode cX10_phase 22 = .ok (.iconst 1, 1) := by decide +kernel
theorem dX10_phase_23 : decode cX10_phase 23 = .ok (.isub, 1) := by decide +kernel
theorem dX10_phase_24 : decode cX10_phase 24 = .ok (.invokestatic 54, 3) := by decide +kernel
theorem dX10_phase_27 : decode cX10_phase 27 = .ok (.ifCond .ne 5, 3) := by decide +kernel
theorem dX10_phase_30 : decode cX10_phase 30 = .ok (.iconst (-1), 1) := by decide +kernel
theorem dX10_phase_31 : decode cX10_phase 31 = .ok (.ireturn, 1) := by decide +kernel
theorem dX10_phase_32 : decode cX10_phase 32 = .ok (.aload_n 0, 1) := by decide +kernel
theorem dX10_phase_33 : decode cX10_phase 33 = .ok (.getfield 12, 3) := by decide +kernel
theorem dX10_phase_36 : decode cX10_phase 36 = .ok (.getfield 62, 3) := by decide +kernel
theorem dX10_phase_39 : decode cX10_phase 39 = .ok (.iload_n 1, 1) := by decide +kernel
theorem dX10_phase_40 : decode cX10_phase 40 = .ok (.aaload, 1) := by decide +kernel
theorem dX10_phase_41 : decode cX10_phase 41 = .ok (.getfield 79, 3) := by decide +kernel
theorem dX10_phase_44 : decode cX10_phase 44 = .ok (.istore_n 3, 1) := by decide +kernel
theorem dX10_phase_45 : decode cX10_phase 45 = .ok (.aload_n 0, 1) := by decide +kernel
theorem dX10_phase_46 : decode cX10_phase 46 = .ok (.getfield 12, 3) := by decide +kernel
theorem dX10_phase_49 : decode cX10_phase 49 = .ok (.getfield 62, 3) := by decide +kernel
theorem dX10_phase_52 : decode cX10_phase 52 = .ok (.iload_n 1, 1) := by decide +kernel
theorem dX10_phase_53 : decode cX10_phase 53 = .ok (.aaload, 1) := by decide +kernel
theorem dX10_phase_54 : decode cX10_phase 54 = .ok (.iload_n 2, 1) := by decide +kernel
theorem dX10_phase_55 : decode cX10_phase 55 = .ok (.putfield 79, 3) := by decide +kernel
theorem dX10_phase_58 : decode cX10_phase 58 = .ok (.iload_n 3, 1) := by decide +kernel
theorem dX10_phase_59 : decode cX10_phase 59 = .ok (.ireturn, 1) := by decide +kernel
theorem dX10_ship_0 : decode cX10_ship 0 = .ok (.iload_n 1, 1) := by decide +kernel
theorem dX10_ship_1 : decode cX10_ship 1 = .ok (.iconst 0, 1) := by decide +kernel
theorem dX10_ship_2 : decode cX10_ship 2 = .ok (.iconst 3, 1) := by decide +kernel
theorem dX10_ship_3 : decode cX10_ship 3 = .ok (.invokestatic 54, 3) := by decide +kernel
theorem dX10_ship_6 : decode cX10_ship 6 = .ok (.ifCond .eq 22, 3) := by decide +kernel
theorem dX10_ship_9 : decode cX10_ship 9 = .ok (.iload_n 2, 1) := by decide +kernel
theorem dX10_ship_10 : decode cX10_ship 10 = .ok (.iconst 1, 1) := by decide +kernel
theorem dX10_ship_11 : decode cX10_ship 11 = .ok (.bipush 9, 2) := by decide +kernel
theorem dX10_ship_13 : decode cX10_ship 13 = .ok (.invokestatic 54, 3) := by decide +kernel
theorem dX10_ship_16 : decode cX10_ship 16 = .ok (.ifCond .eq 12, 3) := by decide +kernel
theorem dX10_ship_19 : decode cX10_ship 19 = .ok (.iload_n 3, 1) := by decide +kernel
theorem dX10_ship_20 : decode cX10_ship 20 = .ok (.iconst 1, 1) := by decide +kernel
theorem dX10_ship_21 : decode cX10_ship 21 = .ok (.iconst 5, 1) := by decide +kernel
theorem dX10_ship_22 : decode cX10_ship 22 = .ok (.invokestatic 54, 3) := by decide +kernel
theorem dX10_ship_25 : decode cX10_ship 25 = .ok (.ifCond .ne 5, 3) := by decide +kernel
theorem dX10_ship_28 : decode cX10_ship 28 = .ok (.iconst (-1), 1) := by decide +kernel
theorem dX10_ship_29 : decode cX10_ship 29 = .ok (.ireturn, 1) := by decide +kernel
theorem dX10_ship_30 : decode cX10_ship 30 = .ok (.aload_n 0, 1) := by decide +kernel
theorem dX10_ship_31 : decode cX10_ship 31 = .ok (.getfield 12, 3) := by decide +kernel
theorem dX10_ship_34 : decode cX10_ship 34 = .ok (.getfield 82, 3) := by decide +kernel
theorem dX10_ship_37 : decode cX10_ship 37 = .ok (.iconst 5, 1) := by decide +kernel
theorem dX10_ship_38 : decode cX10_ship 38 = .ok (.if_icmp .lt 6, 3) := by decide +kernel
theorem dX10_ship_41 : decode cX10_ship 41 = .ok (.bipush (-3), 2) := by decide +kernel
theorem dX10_ship_43 : decode cX10_ship 43 = .ok (.ireturn, 1) := by decide +kernel
theorem dX10_ship_44 : decode cX10_ship 44 = .ok (.aload_n 0, 1) := by decide +kernel
theorem dX10_ship_45 : decode cX10_ship 45 = .ok (.getfield 12, 3) := by decide +kernel
theorem dX10_ship_48 : decode cX10_ship 48 = .ok (.getfield 85, 3) := by decide +kernel
theorem dX10_ship_51 : decode cX10_ship 51 = .ok (.aload_n 0, 1) := by decide +kernel
theorem dX10_ship_52 : decode cX10_ship 52 = .ok (.getfield 12, 3) := by decide +kernel
theorem dX10_ship_55 : decode cX10_ship 55 = .ok (.getfield 82, 3) := by decide +kernel
theorem dX10_ship_58 : decode cX10_ship 58 = .ok (.aaload, 1) := by decide +kernel
theorem dX10_ship_59 : decode cX10_ship 59 = .ok (.iload_n 1, 1) := by decide +kernel
theorem dX10_ship_60 : decode cX10_ship 60 = .ok (.iload_n 2, 1) := by decide +kernel
theorem dX10_ship_61 : decode cX10_ship 61 = .ok (.iload_n 3, 1) := by decide +kernel
theorem dX10_ship_62 : decode cX10_ship 62 = .ok (.invokevirtual 89, 3) := by decide +kernel
theorem dX10_ship_65 : decode cX10_ship 65 = .ok (.aload_n 0, 1) := by decide +kernel
theorem dX10_ship_66 : decode cX10_ship 66 = .ok (.getfield 12, 3) := by decide +kernel
theorem dX10_ship_69 : decode cX10_ship 69 = .ok (.dup, 1) := by decide +kernel
theorem dX10_ship_70 : decode cX10_ship 70 = .ok (.getfield 82, 3) := by decide +kernel
theorem dX10_ship_73 : decode cX10_ship 73 = .ok (.dup_x1, 1) := by decide +kernel
theorem dX10_ship_74 : decode cX10_ship 74 = .ok (.iconst 1, 1) := by decide +kernel
theorem dX10_ship_75 : decode cX10_ship 75 = .ok (.iadd, 1) := by decide +kernel
theorem dX10_ship_76 : decode cX10_ship 76 = .ok (.putfield 82, 3) := by decide +kernel
theorem dX10_ship_79 : decode cX10_ship 79 = .ok (.ireturn, 1) := by decide +kernel
theorem dX10_of_0 : decode cX10_of 0 = .ok (.aload_n 0, 1) := by decide +kernel
theorem dX10_of_1 : decode cX10_of 1 = .ok (.iload_n 1, 1) := by decide +kernel
theorem dX10_of_2 : decode cX10_of 2 = .ok (.invokevirtual 72, 3) := by decide +kernel
theorem dX10_of_5 : decode cX10_of 5 = .ok (.ifCond .ne 5, 3) := by decide +kernel
theorem dX10_of_8 : decode cX10_of 8 = .ok (.iconst (-1), 1) := by decide +kernel
theorem dX10_of_9 : decode cX10_of 9 = .ok (.ireturn, 1) := by decide +kernel
theorem dX10_of_10 : decode cX10_of 10 = .ok (.aload_n 0, 1) := by decide +kernel
theorem dX10_of_11 : decode cX10_of 11 = .ok (.getfield 12, 3) := by decide +kernel
theorem dX10_of_14 : decode cX10_of 14 = .ok (.getfield 62, 3) := by decide +kernel
theorem dX10_of_17 : decode cX10_of 17 = .ok (.iload_n 1, 1) := by decide +kernel
theorem dX10_of_18 : decode cX10_of 18 = .ok (.aaload, 1) := by decide +kernel
theorem dX10_of_19 : decode cX10_of 19 = .ok (.astore_n 3, 1) := by decide +kernel
theorem dX10_of_20 : decode cX10_of 20 = .ok (.iload_n 2, 1) := by decide +kernel
theorem dX10_of_21 : decode cX10_of 21 = .ok (.tableswitch 60 0 4 #[35, 40, 45, 50, 55], 35) := by decide +kernel
theorem dX10_of_56 : decode cX10_of 56 = .ok (.aload_n 3, 1) := by decide +kernel
theorem dX10_of_57 : decode cX10_of 57 = .ok (.getfield 94, 3) := by decide +kernel
theorem dX10_of_60 : decode cX10_of 60 = .ok (.ireturn, 1) := by decide +kernel
theorem dX10_of_61 : decode cX10_of 61 = .ok (.aload_n 3, 1) := by decide +kernel
theorem dX10_of_62 : decode cX10_of 62 = .ok (.getfield 97, 3) := by decide +kernel
theorem dX10_of_65 : decode cX10_of 65 = .ok (.ireturn, 1) := by decide +kernel
theorem dX10_of_66 : decode cX10_of 66 = .ok (.aload_n 3, 1) := by decide +kernel
theorem dX10_of_67 : decode cX10_of 67 = .ok (.getfield 76, 3) := by decide +kernel
theorem dX10_of_70 : decode cX10_of 70 = .ok (.ireturn, 1) := by decide +kernel
theorem dX10_of_71 : decode cX10_of 71 = .ok (.aload_n 3, 1) := by decide +kernel
theorem dX10_of_72 : decode cX10_of 72 = .ok (.getfield 100, 3) := by decide +kernel
theorem dX10_of_75 : decode cX10_of 75 = .ok (.ireturn, 1) := by decide +kernel
theorem dX10_of_76 : decode cX10_of 76 = .ok (.aload_n 3, 1) := by decide +kernel
theorem dX10_of_77 : decode cX10_of 77 = .ok (.getfield 79, 3) := by decide +kernel
theorem dX10_of_80 : decode cX10_of 80 = .ok (.ireturn, 1) := by decide +kernel
theorem dX10_of_81 : decode cX10_of 81 = .ok (.iconst (-1), 1) := by decide +kernel
theorem dX10_of_82 : decode cX10_of 82 = .ok (.ireturn, 1) := by decide +kernel
theorem dX10_told_0 : decode cX10_told 0 = .ok (.aload_n 0, 1) := by decide +kernel
theorem dX10_told_1 : decode cX10_told 1 = .ok (.iload_n 1, 1) := by decide +kernel
theorem dX10_told_2 : decode cX10_told 2 = .ok (.invokevirtual 103, 3) := by decide +kernel
theorem dX10_told_5 : decode cX10_told 5 = .ok (.ifCond .ne 5, 3) := by decide +kernel
theorem dX10_told_8 : decode cX10_told 8 = .ok (.iconst (-1), 1) := by decide +kernel
theorem dX10_told_9 : decode cX10_told 9 = .ok (.ireturn, 1) := by decide +kernel
theorem dX10_told_10 : decode cX10_told 10 = .ok (.aload_n 0, 1) := by decide +kernel
theorem dX10_told_11 : decode cX10_told 11 = .ok (.getfield 12, 3) := by decide +kernel
theorem dX10_told_14 : decode cX10_told 14 = .ok (.getfield 85, 3) := by decide +kernel
theorem dX10_told_17 : decode cX10_told 17 = .ok (.iload_n 1, 1) := by decide +kernel
theorem dX10_told_18 : decode cX10_told 18 = .ok (.aaload, 1) := by decide +kernel
theorem dX10_told_19 : decode cX10_told 19 = .ok (.astore_n 3, 1) := by decide +kernel
theorem dX10_told_20 : decode cX10_told 20 = .ok (.iload_n 2, 1) := by decide +kernel
theorem dX10_told_21 : decode cX10_told 21 = .ok (.tableswitch 69 0 5 #[39, 44, 49, 54, 59, 64], 39) := by decide +kernel
theorem dX10_told_60 : decode cX10_told 60 = .ok (.aload_n 3, 1) := by decide +kernel
theorem dX10_told_61 : decode cX10_told 61 = .ok (.getfield 106, 3) := by decide +kernel
theorem dX10_told_64 : decode cX10_told 64 = .ok (.ireturn, 1) := by decide +kernel
theorem dX10_told_65 : decode cX10_told 65 = .ok (.aload_n 3, 1) := by decide +kernel
theorem dX10_told_66 : decode cX10_told 66 = .ok (.getfield 107, 3) := by decide +kernel
theorem dX10_told_69 : decode cX10_told 69 = .ok (.ireturn, 1) := by decide +kernel
theorem dX10_told_70 : decode cX10_told 70 = .ok (.aload_n 3, 1) := by decide +kernel
theorem dX10_told_71 : decode cX10_told 71 = .ok (.getfield 110, 3) := by decide +kernel
theorem dX10_told_74 : decode cX10_told 74 = .ok (.ireturn, 1) := by decide +kernel
theorem dX10_told_75 : decode cX10_told 75 = .ok (.aload_n 3, 1) := by decide +kernel
theorem dX10_told_76 : decode cX10_told 76 = .ok (.invokevirtual 113, 3) := by decide +kernel
theorem dX10_told_79 : decode cX10_told 79 = .ok (.ireturn, 1) := by decide +kernel
theorem dX10_told_80 : decode cX10_told 80 = .ok (.aload_n 3, 1) := by decide +kernel
theorem dX10_told_81 : decode cX10_told 81 = .ok (.invokevirtual 117, 3) := by decide +kernel
theorem dX10_told_84 : decode cX10_told 84 = .ok (.ireturn, 1) := by decide +kernel
theorem dX10_told_85 : decode cX10_told 85 = .ok (.aload_n 3, 1) := by decide +kernel
theorem dX10_told_86 : decode cX10_told 86 = .ok (.invokevirtual 120, 3) := by decide +kernel
theorem dX10_told_89 : decode cX10_told 89 = .ok (.ireturn, 1) := by decide +kernel
theorem dX10_told_90 : decode cX10_told 90 = .ok (.iconst (-1), 1) := by decide +kernel
theorem dX10_told_91 : decode cX10_told 91 = .ok (.ireturn, 1) := by decide +kernel
theorem dX10_open_0 : decode cX10_open 0 = .ok (.aload_n 0, 1) := by decide +kernel
theorem dX10_open_1 : decode cX10_open 1 = .ok (.iload_n 1, 1) := by decide +kernel
theorem dX10_open_2 : decode cX10_open 2 = .ok (.invokevirtual 72, 3) := by decide +kernel
theorem dX10_open_5 : decode cX10_open 5 = .ok (.ifCond .eq 13, 3) := by decide +kernel
theorem dX10_open_8 : decode cX10_open 8 = .ok (.iload_n 2, 1) := by decide +kernel
theorem dX10_open_9 : decode cX10_open 9 = .ok (.iconst 0, 1) := by decide +kernel
theorem dX10_open_10 : decode cX10_open 10 = .ok (.ldc 123, 2) := by decide +kernel
theorem dX10_open_12 : decode cX10_open 12 = .ok (.invokestatic 54, 3) := by decide +kernel
theorem dX10_open_15 : decode cX10_open 15 = .ok (.ifCond .ne 5, 3) := by decide +kernel
theorem dX10_open_18 : decode cX10_open 18 = .ok (.iconst (-1), 1) := by decide +kernel
theorem dX10_open_19 : decode cX10_open 19 = .ok (.ireturn, 1) := by decide +kernel
theorem dX10_open_20 : decode cX10_open 20 = .ok (.aload_n 0, 1) := by decide +kernel
theorem dX10_open_21 : decode cX10_open 21 = .ok (.getfield 12, 3) := by decide +kernel
theorem dX10_open_24 : decode cX10_open 24 = .ok (.getfield 62, 3) := by decide +kernel
theorem dX10_open_27 : decode cX10_open 27 = .ok (.iload_n 1, 1) := by decide +kernel
theorem dX10_open_28 : decode cX10_open 28 = .ok (.aaload, 1) := by decide +kernel
theorem dX10_open_29 : decode cX10_open 29 = .ok (.iload_n 2, 1) := by decide +kernel
theorem dX10_open_30 : decode cX10_open 30 = .ok (.invokevirtual 124, 3) := by decide +kernel
theorem dX10_open_33 : decode cX10_open 33 = .ok (.invokestatic 127, 3) := by decide +kernel
theorem dX10_open_36 : decode cX10_open 36 = .ok (.ireturn, 1) := by decide +kernel
theorem dX10_type_0 : decode cX10_type 0 = .ok (.iload_n 1, 1) := by decide +kernel
theorem dX10_type_1 : decode cX10_type 1 = .ok (.bipush 32, 2) := by decide +kernel
theorem dX10_type_3 : decode cX10_type 3 = .ok (.bipush 126, 2) := by decide +kernel
theorem dX10_type_5 : decode cX10_type 5 = .ok (.invokestatic 54, 3) := by decide +kernel
theorem dX10_type_8 : decode cX10_type 8 = .ok (.ifCond .ne 5, 3) := by decide +kernel
theorem dX10_type_11 : decode cX10_type 11 = .ok (.iconst (-1), 1) := by decide +kernel
theorem dX10_type_12 : decode cX10_type 12 = .ok (.ireturn, 1) := by decide +kernel
theorem dX10_type_13 : decode cX10_type 13 = .ok (.aload_n 0, 1) := by decide +kernel
theorem dX10_type_14 : decode cX10_type 14 = .ok (.getfield 22, 3) := by decide +kernel
theorem dX10_type_17 : decode cX10_type 17 = .ok (.iload_n 1, 1) := by decide +kernel
theorem dX10_type_18 : decode cX10_type 18 = .ok (.i2c, 1) := by decide +kernel
theorem dX10_type_19 : decode cX10_type 19 = .ok (.invokevirtual 131, 3) := by decide +kernel
theorem dX10_type_22 : decode cX10_type 22 = .ok (.ifCond .eq 13, 3) := by decide +kernel
theorem dX10_type_25 : decode cX10_type 25 = .ok (.aload_n 0, 1) := by decide +kernel
theorem dX10_type_26 : decode cX10_type 26 = .ok (.getfield 22, 3) := by decide +kernel
theorem dX10_type_29 : decode cX10_type 29 = .ok (.getfield 135, 3) := by decide +kernel
theorem dX10_type_32 : decode cX10_type 32 = .ok (.goto 5, 3) := by decide +kernel
theorem dX10_type_35 : decode cX10_type 35 = .ok (.bipush (-3), 2) := by decide +kernel
theorem dX10_type_37 : decode cX10_type 37 = .ok (.ireturn, 1) := by decide +kernel
theorem dX10_strait_0 : decode cX10_strait 0 = .ok (.aload_n 0, 1) := by decide +kernel
theorem dX10_strait_1 : decode cX10_strait 1 = .ok (.getfield 22, 3) := by decide +kernel
theorem dX10_strait_4 : decode cX10_strait 4 = .ok (.invokevirtual 138, 3) := by decide +kernel
theorem dX10_strait_7 : decode cX10_strait 7 = .ok (.istore_n 1, 1) := by decide +kernel
theorem dX10_strait_8 : decode cX10_strait 8 = .ok (.bipush (-20), 2) := by decide +kernel
theorem dX10_strait_10 : decode cX10_strait 10 = .ok (.aload_n 0, 1) := by decide +kernel
theorem dX10_strait_11 : decode cX10_strait 11 = .ok (.getfield 22, 3) := by decide +kernel
theorem dX10_strait_14 : decode cX10_strait 14 = .ok (.getfield 142, 3) := by decide +kernel
theorem dX10_strait_17 : decode cX10_strait 17 = .ok (.isub, 1) := by decide +kernel
theorem dX10_strait_18 : decode cX10_strait 18 = .ok (.istore_n 2, 1) := by decide +kernel
theorem dX10_strait_19 : decode cX10_strait 19 = .ok (.aload_n 0, 1) := by decide +kernel
theorem dX10_strait_20 : decode cX10_strait 20 = .ok (.getfield 22, 3) := by decide +kernel
theorem dX10_strait_23 : decode cX10_strait 23 = .ok (.iconst 0, 1) := by decide +kernel
theorem dX10_strait_24 : decode cX10_strait 24 = .ok (.putfield 135, 3) := by decide +kernel
theorem dX10_strait_27 : decode cX10_strait 27 = .ok (.iload_n 1, 1) := by decide +kernel
theorem dX10_strait_28 : decode cX10_strait 28 = .ok (.ifCond .ne 5, 3) := by decide +kernel
theorem dX10_strait_31 : decode cX10_strait 31 = .ok (.iload_n 2, 1) := by decide +kernel
theorem dX10_strait_32 : decode cX10_strait 32 = .ok (.ireturn, 1) := by decide +kernel
theorem dX10_strait_33 : decode cX10_strait 33 = .ok (.aload_n 0, 1) := by decide +kernel
theorem dX10_strait_34 : decode cX10_strait 34 = .ok (.getfield 12, 3) := by decide +kernel
theorem dX10_strait_37 : decode cX10_strait 37 = .ok (.aload_n 0, 1) := by decide +kernel
theorem dX10_strait_38 : decode cX10_strait 38 = .ok (.getfield 22, 3) := by decide +kernel
theorem dX10_strait_41 : decode cX10_strait 41 = .ok (.invokevirtual 145, 3) := by decide +kernel
theorem dX10_strait_44 : decode cX10_strait 44 = .ok (.aload_n 0, 1) := by decide +kernel
theorem dX10_strait_45 : decode cX10_strait 45 = .ok (.getfield 12, 3) := by decide +kernel
theorem dX10_strait_48 : decode cX10_strait 48 = .ok (.getfield 58, 3) := by decide +kernel
theorem dX10_strait_51 : decode cX10_strait 51 = .ok (.ireturn, 1) := by decide +kernel
theorem dX10_count_0 : decode cX10_count 0 = .ok (.iload_n 1, 1) := by decide +kernel
theorem dX10_count_1 : decode cX10_count 1 = .ok (.tableswitch 145 0 7 #[47, 55, 63, 74, 104, 115, 126, 134], 47) := by decide +kernel
theorem dX10_count_48 : decode cX10_count 48 = .ok (.aload_n 0, 1) := by decide +kernel
theorem dX10_count_49 : decode cX10_count 49 = .ok (.getfield 12, 3) := by decide +kernel
theorem dX10_count_52 : decode cX10_count 52 = .ok (.getfield 58, 3) := by decide +kernel
theorem dX10_count_55 : decode cX10_count 55 = .ok (.ireturn, 1) := by decide +kernel
theorem dX10_count_56 : decode cX10_count 56 = .ok (.aload_n 0, 1) := by decide +kernel
theorem dX10_count_57 : decode cX10_count 57 = .ok (.getfield 12, 3) := by decide +kernel
theorem dX10_count_60 : decode cX10_count 60 = .ok (.getfield 82, 3) := by decide +kernel
theorem dX10_count_63 : decode cX10_count 63 = .ok (.ireturn, 1) := by decide +kernel
theorem dX10_count_64 : decode cX10_count 64 = .ok (.aload_n 0, 1) := by decide +kernel
theorem dX10_count_65 : decode cX10_count 65 = .ok (.getfield 12, 3) := by decide +kernel
theorem dX10_count_68 : decode cX10_count 68 = .ok (.getfield 149, 3) := by decide +kernel
theorem dX10_count_71 : decode cX10_count 71 = .ok (.getfield 153, 3) := by decide +kernel
theorem dX10_count_74 : decode cX10_count 74 = .ok (.ireturn, 1) := by decide +kernel
theorem dX10_count_75 : decode cX10_count 75 = .ok (.aload_n 0, 1) := by decide +kernel
theorem dX10_count_76 : decode cX10_count 76 = .ok (.getfield 12, 3) := by decide +kernel
theorem dX10_count_79 : decode cX10_count 79 = .ok (.getfield 149, 3) := by decide +kernel
theorem dX10_count_82 : decode cX10_count 82 = .ok (.getfield 158, 3) := by decide +kernel
theorem dX10_count_85 : decode cX10_count 85 = .ok (.iconst (-1), 1) := by decide +kernel
theorem dX10_count_86 : decode cX10_count 86 = .ok (.if_icmp .ne 8, 3) := by decide +kernel
theorem dX10_count_89 : decode cX10_count 89 = .ok (.bipush (-4), 2) := by decide +kernel
theorem dX10_count_91 : decode cX10_count 91 = .ok (.goto 13, 3) := by decide +kernel
theorem dX10_count_94 : decode cX10_count 94 = .ok (.aload_n 0, 1) := by decide +kernel
theorem dX10_count_95 : decode cX10_count 95 = .ok (.getfield 12, 3) := by decide +kernel
theorem dX10_count_98 : decode cX10_count 98 = .ok (.getfield 149, 3) := by decide +kernel
theorem dX10_count_101 : decode cX10_count 101 = .ok (.getfield 158, 3) := by decide +kernel
theorem dX10_count_104 : decode cX10_count 104 = .ok (.ireturn, 1) := by decide +kernel
theorem dX10_count_105 : decode cX10_count 105 = .ok (.aload_n 0, 1) := by decide +kernel
theorem dX10_count_106 : decode cX10_count 106 = .ok (.getfield 12, 3) := by decide +kernel
theorem dX10_count_109 : decode cX10_count 109 = .ok (.getfield 149, 3) := by decide +kernel
theorem dX10_count_112 : decode cX10_count 112 = .ok (.getfield 161, 3) := by decide +kernel
theorem dX10_count_115 : decode cX10_count 115 = .ok (.ireturn, 1) := by decide +kernel
theorem dX10_count_116 : decode cX10_count 116 = .ok (.aload_n 0, 1) := by decide +kernel
theorem dX10_count_117 : decode cX10_count 117 = .ok (.getfield 12, 3) := by decide +kernel
theorem dX10_count_120 : decode cX10_count 120 = .ok (.getfield 149, 3) := by decide +kernel
theorem dX10_count_123 : decode cX10_count 123 = .ok (.getfield 164, 3) := by decide +kernel
theorem dX10_count_126 : decode cX10_count 126 = .ok (.ireturn, 1) := by decide +kernel
theorem dX10_count_127 : decode cX10_count 127 = .ok (.aload_n 0, 1) := by decide +kernel
theorem dX10_count_128 : decode cX10_count 128 = .ok (.getfield 12, 3) := by decide +kernel
theorem dX10_count_131 : decode cX10_count 131 = .ok (.getfield 167, 3) := by decide +kernel
theorem dX10_count_134 : decode cX10_count 134 = .ok (.ireturn, 1) := by decide +kernel
theorem dX10_count_135 : decode cX10_count 135 = .ok (.aload_n 0, 1) := by decide +kernel
theorem dX10_count_136 : decode cX10_count 136 = .ok (.getfield 12, 3) := by decide +kernel
theorem dX10_count_139 : decode cX10_count 139 = .ok (.getfield 170, 3) := by decide +kernel
theorem dX10_count_142 : decode cX10_count 142 = .ok (.getfield 174, 3) := by decide +kernel
theorem dX10_count_145 : decode cX10_count 145 = .ok (.ireturn, 1) := by decide +kernel
theorem dX10_count_146 : decode cX10_count 146 = .ok (.iconst (-1), 1) := by decide +kernel
theorem dX10_count_147 : decode cX10_count 147 = .ok (.ireturn, 1) := by decide +kernel
theorem dX10_setOut_0 : decode cX10_setOut 0 = .ok (.aload_n 0, 1) := by decide +kernel
theorem dX10_setOut_1 : decode cX10_setOut 1 = .ok (.iload_n 1, 1) := by decide +kernel
theorem dX10_setOut_2 : decode cX10_setOut 2 = .ok (.invokevirtual 103, 3) := by decide +kernel
theorem dX10_setOut_5 : decode cX10_setOut 5 = .ok (.ifCond .ne 5, 3) := by decide +kernel
theorem dX10_setOut_8 : decode cX10_setOut 8 = .ok (.iconst (-1), 1) := by decide +kernel
theorem dX10_setOut_9 : decode cX10_setOut 9 = .ok (.ireturn, 1) := by decide +kernel
theorem dX10_setOut_10 : decode cX10_setOut 10 = .ok (.aload_n 0, 1) := by decide +kernel
theorem dX10_setOut_11 : decode cX10_setOut 11 = .ok (.getfield 12, 3) := by decide +kernel
theorem dX10_setOut_14 : decode cX10_setOut 14 = .ok (.getfield 149, 3) := by decide +kernel
theorem dX10_setOut_17 : decode cX10_setOut 17 = .ok (.astore_n 2, 1) := by decide +kernel
theorem dX10_setOut_18 : decode cX10_setOut 18 = .ok (.aload_n 2, 1) := by decide +kernel
theorem dX10_setOut_19 : decode cX10_setOut 19 = .ok (.getfield 158, 3) := by decide +kernel
theorem dX10_setOut_22 : decode cX10_setOut 22 = .ok (.iconst (-1), 1) := by decide +kernel
theorem dX10_setOut_23 : decode cX10_setOut 23 = .ok (.if_icmp .eq 20, 3) := by decide +kernel
theorem dX10_setOut_26 : decode cX10_setOut 26 = .ok (.aload_n 2, 1) := by decide +kernel
theorem dX10_setOut_27 : decode cX10_setOut 27 = .ok (.getfield 161, 3) := by decide +kernel
theorem dX10_setOut_30 : decode cX10_setOut 30 = .ok (.aload_n 0, 1) := by decide +kernel
theorem dX10_setOut_31 : decode cX10_setOut 31 = .ok (.getfield 12, 3) := by decide +kernel
theorem dX10_setOut_34 : decode cX10_setOut 34 = .ok (.getfield 58, 3) := by decide +kernel
theorem dX10_setOut_37 : decode cX10_setOut 37 = .ok (.if_icmp .ge 6, 3) := by decide +kernel
theorem dX10_setOut_40 : decode cX10_setOut 40 = .ok (.bipush (-2), 2) := by decide +kernel
theorem dX10_setOut_42 : decode cX10_setOut 42 = .ok (.ireturn, 1) := by decide +kernel
theorem dX10_setOut_43 : decode cX10_setOut 43 = .ok (.aload_n 0, 1) := by decide +kernel
theorem dX10_setOut_44 : decode cX10_setOut 44 = .ok (.getfield 12, 3) := by decide +kernel
theorem dX10_setOut_47 : decode cX10_setOut 47 = .ok (.invokevirtual 177, 3) := by decide +kernel
theorem dX10_setOut_50 : decode cX10_setOut 50 = .ok (.aload_n 2, 1) := by decide +kernel
theorem dX10_setOut_51 : decode cX10_setOut 51 = .ok (.iload_n 1, 1) := by decide +kernel
theorem dX10_setOut_52 : decode cX10_setOut 52 = .ok (.invokevirtual 180, 3) := by decide +kernel
theorem dX10_setOut_55 : decode cX10_setOut 55 = .ok (.aload_n 0, 1) := by decide +kernel
theorem dX10_setOut_56 : decode cX10_setOut 56 = .ok (.getfield 12, 3) := by decide +kernel
theorem dX10_setOut_59 : decode cX10_setOut 59 = .ok (.getfield 58, 3) := by decide +kernel
theorem dX10_setOut_62 : decode cX10_setOut 62 = .ok (.ireturn, 1) := by decide +kernel
theorem dX10_idle_0 : decode cX10_idle 0 = .ok (.iload_n 1, 1) := by decide +kernel
theorem dX10_idle_1 : decode cX10_idle 1 = .ok (.iconst 1, 1) := by decide +kernel
theorem dX10_idle_2 : decode cX10_idle 2 = .ok (.bipush 99, 2) := by decide +kernel
theorem dX10_idle_4 : decode cX10_idle 4 = .ok (.invokestatic 54, 3) := by decide +kernel
theorem dX10_idle_7 : decode cX10_idle 7 = .ok (.ifCond .ne 5, 3) := by decide +kernel
theorem dX10_idle_10 : decode cX10_idle 10 = .ok (.iconst (-1), 1) := by decide +kernel
theorem dX10_idle_11 : decode cX10_idle 11 = .ok (.ireturn, 1) := by decide +kernel
theorem dX10_idle_12 : decode cX10_idle 12 = .ok (.aload_n 0, 1) := by decide +kernel
theorem dX10_idle_13 : decode cX10_idle 13 = .ok (.getfield 12, 3) := by decide +kernel
theorem dX10_idle_16 : decode cX10_idle 16 = .ok (.getfield 149, 3) := by decide +kernel
theorem dX10_idle_19 : decode cX10_idle 19 = .ok (.getfield 153, 3) := by decide +kernel
theorem dX10_idle_22 : decode cX10_idle 22 = .ok (.iload_n 1, 1) := by decide +kernel
theorem dX10_idle_23 : decode cX10_idle 23 = .ok (.iadd, 1) := by decide +kernel
theorem dX10_idle_24 : decode cX10_idle 24 = .ok (.sipush 9999, 3) := by decide +kernel
theorem dX10_idle_27 : decode cX10_idle 27 = .ok (.if_icmp .le 6, 3) := by decide +kernel
theorem dX10_idle_30 : decode cX10_idle 30 = .ok (.bipush (-3), 2) := by decide +kernel
theorem dX10_idle_32 : decode cX10_idle 32 = .ok (.ireturn, 1) := by decide +kernel
theorem dX10_idle_33 : decode cX10_idle 33 = .ok (.aload_n 0, 1) := by decide +kernel
theorem dX10_idle_34 : decode cX10_idle 34 = .ok (.getfield 12, 3) := by decide +kernel
theorem dX10_idle_37 : decode cX10_idle 37 = .ok (.invokevirtual 177, 3) := by decide +kernel
theorem dX10_idle_40 : decode cX10_idle 40 = .ok (.aload_n 0, 1) := by decide +kernel
theorem dX10_idle_41 : decode cX10_idle 41 = .ok (.getfield 12, 3) := by decide +kernel
theorem dX10_idle_44 : decode cX10_idle 44 = .ok (.getfield 149, 3) := by decide +kernel
theorem dX10_idle_47 : decode cX10_idle 47 = .ok (.dup, 1) := by decide +kernel
theorem dX10_idle_48 : decode cX10_idle 48 = .ok (.getfield 153, 3) := by decide +kernel
theorem dX10_idle_51 : decode cX10_idle 51 = .ok (.iload_n 1, 1) := by decide +kernel
theorem dX10_idle_52 : decode cX10_idle 52 = .ok (.iadd, 1) := by decide +kernel
theorem dX10_idle_53 : decode cX10_idle 53 = .ok (.putfield 153, 3) := by decide +kernel
theorem dX10_idle_56 : decode cX10_idle 56 = .ok (.aload_n 0, 1) := by decide +kernel
theorem dX10_idle_57 : decode cX10_idle 57 = .ok (.getfield 12, 3) := by decide +kernel
theorem dX10_idle_60 : decode cX10_idle 60 = .ok (.getfield 149, 3) := by decide +kernel
theorem dX10_idle_63 : decode cX10_idle 63 = .ok (.getfield 153, 3) := by decide +kernel
theorem dX10_idle_66 : decode cX10_idle 66 = .ok (.ireturn, 1) := by decide +kernel
theorem dX10_pass_0 : decode cX10_pass 0 = .ok (.aload_n 0, 1) := by decide +kernel
theorem dX10_pass_1 : decode cX10_pass 1 = .ok (.getfield 12, 3) := by decide +kernel
theorem dX10_pass_4 : decode cX10_pass 4 = .ok (.getfield 149, 3) := by decide +kernel
theorem dX10_pass_7 : decode cX10_pass 7 = .ok (.astore_n 2, 1) := by decide +kernel
theorem dX10_pass_8 : decode cX10_pass 8 = .ok (.aload_n 0, 1) := by decide +kernel
theorem dX10_pass_9 : decode cX10_pass 9 = .ok (.aload_n 2, 1) := by decide +kernel
theorem dX10_pass_10 : decode cX10_pass 10 = .ok (.getfield 158, 3) := by decide +kernel
theorem dX10_pass_13 : decode cX10_pass 13 = .ok (.invokevirtual 103, 3) := by decide +kernel
theorem dX10_pass_16 : decode cX10_pass 16 = .ok (.ifCond .eq 14, 3) := by decide +kernel
theorem dX10_pass_19 : decode cX10_pass 19 = .ok (.aload_n 0, 1) := by decide +kernel
theorem dX10_pass_20 : decode cX10_pass 20 = .ok (.aload_n 2, 1) := by decide +kernel
theorem dX10_pass_21 : decode cX10_pass 21 = .ok (.getfield 161, 3) := by decide +kernel
theorem dX10_pass_24 : decode cX10_pass 24 = .ok (.invokevirtual 72, 3) := by decide +kernel
theorem dX10_pass_27 : decode cX10_pass 27 = .ok (.ifCond .ne 6, 3) := by decide +kernel
theorem dX10_pass_30 : decode cX10_pass 30 = .ok (.bipush (-2), 2) := by decide +kernel
theorem dX10_pass_32 : decode cX10_pass 32 = .ok (.ireturn, 1) := by decide +kernel
theorem dX10_pass_33 : decode cX10_pass 33 = .ok (.aload_n 0, 1) := by decide +kernel
theorem dX10_pass_34 : decode cX10_pass 34 = .ok (.getfield 12, 3) := by decide +kernel
theorem dX10_pass_37 : decode cX10_pass 37 = .ok (.getfield 85, 3) := by decide +kernel
theorem dX10_pass_40 : decode cX10_pass 40 = .ok (.aload_n 2, 1) := by decide +kernel
theorem dX10_pass_41 : decode cX10_pass 41 = .ok (.getfield 158, 3) := by decide +kernel
theorem dX10_pass_44 : decode cX10_pass 44 = .ok (.aaload, 1) := by decide +kernel
theorem dX10_pass_45 : decode cX10_pass 45 = .ok (.astore_n 3, 1) := by decide +kernel
theorem dX10_pass_46 : decode cX10_pass 46 = .ok (.iload_n 1, 1) := by decide +kernel
theorem dX10_pass_47 : decode cX10_pass 47 = .ok (.aload_n 3, 1) := by decide +kernel
theorem dX10_pass_48 : decode cX10_pass 48 = .ok (.invokevirtual 113, 3) := by decide +kernel
theorem dX10_pass_51 : decode cX10_pass 51 = .ok (.aload_n 3, 1) := by decide +kernel
theorem dX10_pass_52 : decode cX10_pass 52 = .ok (.invokevirtual 117, 3) := by decide +kernel
theorem dX10_pass_55 : decode cX10_pass 55 = .ok (.invokestatic 54, 3) := by decide +kernel
theorem dX10_pass_58 : decode cX10_pass 58 = .ok (.ifCond .ne 5, 3) := by decide +kernel
theorem dX10_pass_61 : decode cX10_pass 61 = .ok (.iconst (-1), 1) := by decide +kernel
theorem dX10_pass_62 : decode cX10_pass 62 = .ok (.ireturn, 1) := by decide +kernel
theorem dX10_pass_63 : decode cX10_pass 63 = .ok (.aload_n 0, 1) := by decide +kernel
theorem dX10_pass_64 : decode cX10_pass 64 = .ok (.getfield 29, 3) := by decide +kernel
theorem dX10_pass_67 : decode cX10_pass 67 = .ok (.aload_n 0, 1) := by decide +kernel
theorem dX10_pass_68 : decode cX10_pass 68 = .ok (.getfield 12, 3) := by decide +kernel
theorem dX10_pass_71 : decode cX10_pass 71 = .ok (.getfield 62, 3) := by decide +kernel
theorem dX10_pass_74 : decode cX10_pass 74 = .ok (.aload_n 2, 1) := by decide +kernel
theorem dX10_pass_75 : decode cX10_pass 75 = .ok (.getfield 161, 3) := by decide +kernel
theorem dX10_pass_78 : decode cX10_pass 78 = .ok (.aaload, 1) := by decide +kernel
theorem dX10_pass_79 : decode cX10_pass 79 = .ok (.aload_n 3, 1) := by decide +kernel
theorem dX10_pass_80 : decode cX10_pass 80 = .ok (.aload_n 2, 1) := by decide +kernel
theorem dX10_pass_81 : decode cX10_pass 81 = .ok (.getfield 153, 3) := by decide +kernel
theorem dX10_pass_84 : decode cX10_pass 84 = .ok (.iload_n 1, 1) := by decide +kernel
theorem dX10_pass_85 : decode cX10_pass 85 = .ok (.invokevirtual 184, 3) := by decide +kernel
theorem dX10_pass_88 : decode cX10_pass 88 = .ok (.istore 4, 2) := by decide +kernel
theorem dX10_pass_90 : decode cX10_pass 90 = .ok (.aload_n 0, 1) := by decide +kernel
theorem dX10_pass_91 : decode cX10_pass 91 = .ok (.getfield 29, 3) := by decide +kernel
theorem dX10_pass_94 : decode cX10_pass 94 = .ok (.getfield 188, 3) := by decide +kernel
theorem dX10_pass_97 : decode cX10_pass 97 = .ok (.sipush 9999, 3) := by decide +kernel
theorem dX10_pass_100 : decode cX10_pass 100 = .ok (.if_icmp .le 6, 3) := by decide +kernel
theorem dX10_pass_103 : decode cX10_pass 103 = .ok (.bipush (-3), 2) := by decide +kernel
theorem dX10_pass_105 : decode cX10_pass 105 = .ok (.ireturn, 1) := by decide +kernel
theorem dX10_pass_106 : decode cX10_pass 106 = .ok (.aload_n 0, 1) := by decide +kernel
theorem dX10_pass_107 : decode cX10_pass 107 = .ok (.getfield 12, 3) := by decide +kernel
theorem dX10_pass_110 : decode cX10_pass 110 = .ok (.invokevirtual 177, 3) := by decide +kernel
theorem dX10_pass_113 : decode cX10_pass 113 = .ok (.aload_n 2, 1) := by decide +kernel
theorem dX10_pass_114 : decode cX10_pass 114 = .ok (.aload_n 0, 1) := by decide +kernel
theorem dX10_pass_115 : decode cX10_pass 115 = .ok (.getfield 29, 3) := by decide +kernel
theorem dX10_pass_118 : decode cX10_pass 118 = .ok (.getfield 188, 3) := by decide +kernel
theorem dX10_pass_121 : decode cX10_pass 121 = .ok (.putfield 153, 3) := by decide +kernel
theorem dX10_pass_124 : decode cX10_pass 124 = .ok (.iload 4, 2) := by decide +kernel
theorem dX10_pass_126 : decode cX10_pass 126 = .ok (.iconst 2, 1) := by decide +kernel
theorem dX10_pass_127 : decode cX10_pass 127 = .ok (.if_icmp .ne 11, 3) := by decide +kernel
theorem dX10_pass_130 : decode cX10_pass 130 = .ok (.aload_n 2, 1) := by decide +kernel
theorem dX10_pass_131 : decode cX10_pass 131 = .ok (.iconst (-1), 1) := by decide +kernel
theorem dX10_pass_132 : decode cX10_pass 132 = .ok (.putfield 158, 3) := by decide +kernel
theorem dX10_pass_135 : decode cX10_pass 135 = .ok (.goto 33, 3) := by decide +kernel
theorem dX10_pass_138 : decode cX10_pass 138 = .ok (.aload_n 2, 1) := by decide +kernel
theorem dX10_pass_139 : decode cX10_pass 139 = .ok (.dup, 1) := by decide +kernel
theorem dX10_pass_140 : decode cX10_pass 140 = .ok (.getfield 161, 3) := by decide +kernel
theorem dX10_pass_143 : decode cX10_pass 143 = .ok (.iconst 1, 1) := by decide +kernel
theorem dX10_pass_144 : decode cX10_pass 144 = .ok (.iadd, 1) := by decide +kernel
theorem dX10_pass_145 : decode cX10_pass 145 = .ok (.putfield 161, 3) := by decide +kernel
theorem dX10_pass_148 : decode cX10_pass 148 = .ok (.aload_n 2, 1) := by decide +kernel
theorem dX10_pass_149 : decode cX10_pass 149 = .ok (.dup, 1) := by decide +kernel
theorem dX10_pass_150 : decode cX10_pass 150 = .ok (.getfield 164, 3) := by decide +kernel
theorem dX10_pass_153 : decode cX10_pass 153 = .ok (.iload 4, 2) := by decide +kernel
theorem dX10_pass_155 : decode cX10_pass 155 = .ok (.iconst 1, 1) := by decide +kernel
theorem dX10_pass_156 : decode cX10_pass 156 = .ok (.if_icmp .ne 7, 3) := by decide +kernel
theorem dX10_pass_159 : decode cX10_pass 159 = .ok (.iconst 1, 1) := by decide +kernel
theorem dX10_pass_160 : decode cX10_pass 160 = .ok (.goto 4, 3) := by decide +kernel
theorem dX10_pass_163 : decode cX10_pass 163 = .ok (.iconst 0, 1) := by decide +kernel
theorem dX10_pass_164 : decode cX10_pass 164 = .ok (.iadd, 1) := by decide +kernel
theorem dX10_pass_165 : decode cX10_pass 165 = .ok (.putfield 164, 3) := by decide +kernel
theorem dX10_pass_168 : decode cX10_pass 168 = .ok (.iload 4, 2) := by decide +kernel
theorem dX10_pass_170 : decode cX10_pass 170 = .ok (.ireturn, 1) := by decide +kernel
theorem dX10_undo_0 : decode cX10_undo 0 = .ok (.aload_n 0, 1) := by decide +kernel
theorem dX10_undo_1 : decode cX10_undo 1 = .ok (.getfield 12, 3) := by decide +kernel
theorem dX10_undo_4 : decode cX10_undo 4 = .ok (.invokevirtual 191, 3) := by decide +kernel
theorem dX10_undo_7 : decode cX10_undo 7 = .ok (.ifCond .eq 13, 3) := by decide +kernel
theorem dX10_undo_10 : decode cX10_undo 10 = .ok (.aload_n 0, 1) := by decide +kernel
theorem dX10_undo_11 : decode cX10_undo 11 = .ok (.getfield 12, 3) := by decide +kernel
theorem dX10_undo_14 : decode cX10_undo 14 = .ok (.getfield 167, 3) := by decide +kernel
theorem dX10_undo_17 : decode cX10_undo 17 = .ok (.goto 5, 3) := by decide +kernel
theorem dX10_undo_20 : decode cX10_undo 20 = .ok (.bipush (-4), 2) := by decide +kernel
theorem dX10_undo_22 : decode cX10_undo 22 = .ok (.ireturn, 1) := by decide +kernel
theorem dX10_seed_0 : decode cX10_seed 0 = .ok (.iload_n 1, 1) := by decide +kernel
theorem dX10_seed_1 : decode cX10_seed 1 = .ok (.ifCond .ge 5, 3) := by decide +kernel
theorem dX10_seed_4 : decode cX10_seed 4 = .ok (.iconst (-1), 1) := by decide +kernel
theorem dX10_seed_5 : decode cX10_seed 5 = .ok (.ireturn, 1) := by decide +kernel
theorem dX10_seed_6 : decode cX10_seed 6 = .ok (.aload_n 0, 1) := by decide +kernel
theorem dX10_seed_7 : decode cX10_seed 7 = .ok (.getfield 12, 3) := by decide +kernel
theorem dX10_seed_10 : decode cX10_seed 10 = .ok (.getfield 194, 3) := by decide +kernel
theorem dX10_seed_13 : decode cX10_seed 13 = .ok (.istore_n 2, 1) := by decide +kernel
theorem dX10_seed_14 : decode cX10_seed 14 = .ok (.aload_n 0, 1) := by decide +kernel
theorem dX10_seed_15 : decode cX10_seed 15 = .ok (.getfield 12, 3) := by decide +kernel
theorem dX10_seed_18 : decode cX10_seed 18 = .ok (.iload_n 1, 1) := by decide +kernel
theorem dX10_seed_19 : decode cX10_seed 19 = .ok (.putfield 194, 3) := by decide +kernel
theorem dX10_seed_22 : decode cX10_seed 22 = .ok (.iload_n 2, 1) := by decide +kernel
theorem dX10_seed_23 : decode cX10_seed 23 = .ok (.ireturn, 1) := by decide +kernel
theorem dX10_lots_0 : decode cX10_lots 0 = .ok (.aload_n 0, 1) := by decide +kernel
theorem dX10_lots_1 : decode cX10_lots 1 = .ok (.iload_n 1, 1) := by decide +kernel
theorem dX10_lots_2 : decode cX10_lots 2 = .ok (.invokevirtual 103, 3) := by decide +kernel
theorem dX10_lots_5 : decode cX10_lots 5 = .ok (.ifCond .eq 13, 3) := by decide +kernel
theorem dX10_lots_8 : decode cX10_lots 8 = .ok (.iload_n 2, 1) := by decide +kernel
theorem dX10_lots_9 : decode cX10_lots 9 = .ok (.iconst 1, 1) := by decide +kernel
theorem dX10_lots_10 : decode cX10_lots 10 = .ok (.bipush 99, 2) := by decide +kernel
theorem dX10_lots_12 : decode cX10_lots 12 = .ok (.invokestatic 54, 3) := by decide +kernel
theorem dX10_lots_15 : decode cX10_lots 15 = .ok (.ifCond .ne 5, 3) := by decide +kernel
theorem dX10_lots_18 : decode cX10_lots 18 = .ok (.iconst (-1), 1) := by decide +kernel
theorem dX10_lots_19 : decode cX10_lots 19 = .ok (.ireturn, 1) := by decide +kernel
theorem dX10_lots_20 : decode cX10_lots 20 = .ok (.iconst 0, 1) := by decide +kernel
theorem dX10_lots_21 : decode cX10_lots 21 = .ok (.istore_n 3, 1) := by decide +kernel
theorem dX10_lots_22 : decode cX10_lots 22 = .ok (.iconst 0, 1) := by decide +kernel
theorem dX10_lots_23 : decode cX10_lots 23 = .ok (.istore 4, 2) := by decide +kernel
theorem dX10_lots_25 : decode cX10_lots 25 = .ok (.iconst 0, 1) := by decide +kernel
theorem dX10_lots_26 : decode cX10_lots 26 = .ok (.istore 5, 2) := by decide +kernel
theorem dX10_lots_28 : decode cX10_lots 28 = .ok (.iload 5, 2) := by decide +kernel
theorem dX10_lots_30 : decode cX10_lots 30 = .ok (.iload_n 2, 1) := by decide +kernel
theorem dX10_lots_31 : decode cX10_lots 31 = .ok (.if_icmp .ge 64, 3) := by decide +kernel
theorem dX10_lots_34 : decode cX10_lots 34 = .ok (.aload_n 0, 1) := by decide +kernel
theorem dX10_lots_35 : decode cX10_lots 35 = .ok (.iload_n 1, 1) := by decide +kernel
theorem dX10_lots_36 : decode cX10_lots 36 = .ok (.aload_n 0, 1) := by decide +kernel
theorem dX10_lots_37 : decode cX10_lots 37 = .ok (.getfield 12, 3) := by decide +kernel
theorem dX10_lots_40 : decode cX10_lots 40 = .ok (.invokevirtual 197, 3) := by decide +kernel
theorem dX10_lots_43 : decode cX10_lots 43 = .ok (.bipush 60, 2) := by decide +kernel
theorem dX10_lots_45 : decode cX10_lots 45 = .ok (.irem, 1) := by decide +kernel
theorem dX10_lots_46 : decode cX10_lots 46 = .ok (.invokevirtual 200, 3) := by decide +kernel
theorem dX10_lots_49 : decode cX10_lots 49 = .ok (.iload_n 3, 1) := by decide +kernel
theorem dX10_lots_50 : decode cX10_lots 50 = .ok (.aload_n 0, 1) := by decide +kernel
theorem dX10_lots_51 : decode cX10_lots 51 = .ok (.getfield 29, 3) := by decide +kernel
theorem dX10_lots_54 : decode cX10_lots 54 = .ok (.invokevirtual 204, 3) := by decide +kernel
theorem dX10_lots_57 : decode cX10_lots 57 = .ok (.ifCond .eq 7, 3) := by decide +kernel
theorem dX10_lots_60 : decode cX10_lots 60 = .ok (.iconst 1, 1) := by decide +kernel
theorem dX10_lots_61 : decode cX10_lots 61 = .ok (.goto 4, 3) := by decide +kernel
theorem dX10_lots_64 : decode cX10_lots 64 = .ok (.iconst 0, 1) := by decide +kernel
theorem dX10_lots_65 : decode cX10_lots 65 = .ok (.iadd, 1) := by decide +kernel
theorem dX10_lots_66 : decode cX10_lots 66 = .ok (.istore_n 3, 1) := by decide +kernel
theorem dX10_lots_67 : decode cX10_lots 67 = .ok (.iload 4, 2) := by decide +kernel
theorem dX10_lots_69 : decode cX10_lots 69 = .ok (.aload_n 0, 1) := by decide +kernel
theorem dX10_lots_70 : decode cX10_lots 70 = .ok (.getfield 29, 3) := by decide +kernel
theorem dX10_lots_73 : decode cX10_lots 73 = .ok (.getfield 207, 3) := by decide +kernel
theorem dX10_lots_76 : decode cX10_lots 76 = .ok (.bipush (-4), 2) := by decide +kernel
theorem dX10_lots_78 : decode cX10_lots 78 = .ok (.if_icmp .ne 7, 3) := by decide +kernel
theorem dX10_lots_81 : decode cX10_lots 81 = .ok (.iconst 0, 1) := by decide +kernel
theorem dX10_lots_82 : decode cX10_lots 82 = .ok (.goto 4, 3) := by decide +kernel
theorem dX10_lots_85 : decode cX10_lots 85 = .ok (.iconst 1, 1) := by decide +kernel
theorem dX10_lots_86 : decode cX10_lots 86 = .ok (.iadd, 1) := by decide +kernel
theorem dX10_lots_87 : decode cX10_lots 87 = .ok (.istore 4, 2) := by decide +kernel
theorem dX10_lots_89 : decode cX10_lots 89 = .ok (.iinc 5 1, 3) := by decide +kernel
theorem dX10_lots_92 : decode cX10_lots 92 = .ok (.goto (-64), 3) := by decide +kernel
theorem dX10_lots_95 : decode cX10_lots 95 = .ok (.iload_n 3, 1) := by decide +kernel
theorem dX10_lots_96 : decode cX10_lots 96 = .ok (.bipush 100, 2) := by decide +kernel
theorem dX10_lots_98 : decode cX10_lots 98 = .ok (.iload 4, 2) := by decide +kernel
theorem dX10_lots_100 : decode cX10_lots 100 = .ok (.imul, 1) := by decide +kernel
theorem dX10_lots_101 : decode cX10_lots 101 = .ok (.iadd, 1) := by decide +kernel
theorem dX10_lots_102 : decode cX10_lots 102 = .ok (.ireturn, 1) := by decide +kernel
theorem dX10_soonest_0 : decode cX10_soonest 0 = .ok (.aload_n 0, 1) := by decide +kernel
theorem dX10_soonest_1 : decode cX10_soonest 1 = .ok (.iload_n 1, 1) := by decide +kernel
theorem dX10_soonest_2 : decode cX10_soonest 2 = .ok (.iload_n 2, 1) := by decide +kernel
theorem dX10_soonest_3 : decode cX10_soonest 3 = .ok (.invokevirtual 210, 3) := by decide +kernel
theorem dX10_soonest_6 : decode cX10_soonest 6 = .ok (.ifCond .eq 21, 3) := by decide +kernel
theorem dX10_soonest_9 : decode cX10_soonest 9 = .ok (.iload_n 3, 1) := by decide +kernel
theorem dX10_soonest_10 : decode cX10_soonest 10 = .ok (.bipush (-2), 2) := by decide +kernel
theorem dX10_soonest_12 : decode cX10_soonest 12 = .ok (.aload_n 0, 1) := by decide +kernel
theorem dX10_soonest_13 : decode cX10_soonest 13 = .ok (.getfield 12, 3) := by decide +kernel
theorem dX10_soonest_16 : decode cX10_soonest 16 = .ok (.getfield 58, 3) := by decide +kernel
theorem dX10_soonest_19 : decode cX10_soonest 19 = .ok (.iconst 1, 1) := by decide +kernel
theorem dX10_soonest_20 : decode cX10_soonest 20 = .ok (.isub, 1) := by decide +kernel
theorem dX10_soonest_21 : decode cX10_soonest 21 = .ok (.invokestatic 54, 3) := by decide +kernel
theorem dX10_soonest_24 : decode cX10_soonest 24 = .ok (.ifCond .ne 5, 3) := by decide +kernel
theorem dX10_soonest_27 : decode cX10_soonest 27 = .ok (.iconst (-1), 1) := by decide +kernel
theorem dX10_soonest_28 : decode cX10_soonest 28 = .ok (.ireturn, 1) := by decide +kernel
theorem dX10_soonest_29 : decode cX10_soonest 29 = .ok (.aload_n 0, 1) := by decide +kernel
theorem dX10_soonest_30 : decode cX10_soonest 30 = .ok (.getfield 36, 3) := by decide +kernel
theorem dX10_soonest_33 : decode cX10_soonest 33 = .ok (.aload_n 0, 1) := by decide +kernel
theorem dX10_soonest_34 : decode cX10_soonest 34 = .ok (.getfield 12, 3) := by decide +kernel
theorem dX10_soonest_37 : decode cX10_soonest 37 = .ok (.aload_n 0, 1) := by decide +kernel
theorem dX10_soonest_38 : decode cX10_soonest 38 = .ok (.getfield 12, 3) := by decide +kernel
theorem dX10_soonest_41 : decode cX10_soonest 41 = .ok (.getfield 85, 3) := by decide +kernel
theorem dX10_soonest_44 : decode cX10_soonest 44 = .ok (.iload_n 1, 1) := by decide +kernel
theorem dX10_soonest_45 : decode cX10_soonest 45 = .ok (.aaload, 1) := by decide +kernel
theorem dX10_soonest_46 : decode cX10_soonest 46 = .ok (.iload_n 2, 1) := by decide +kernel
theorem dX10_soonest_47 : decode cX10_soonest 47 = .ok (.invokevirtual 214, 3) := by decide +kernel
theorem dX10_soonest_50 : decode cX10_soonest 50 = .ok (.aload_n 0, 1) := by decide +kernel
theorem dX10_soonest_51 : decode cX10_soonest 51 = .ok (.getfield 36, 3) := by decide +kernel
theorem dX10_soonest_54 : decode cX10_soonest 54 = .ok (.getfield 218, 3) := by decide +kernel
theorem dX10_soonest_57 : decode cX10_soonest 57 = .ok (.ldc 221, 2) := by decide +kernel
theorem dX10_soonest_59 : decode cX10_soonest 59 = .ok (.if_icmp .ne 6, 3) := by decide +kernel
theorem dX10_soonest_62 : decode cX10_soonest 62 = .ok (.bipush (-4), 2) := by decide +kernel
theorem dX10_soonest_64 : decode cX10_soonest 64 = .ok (.ireturn, 1) := by decide +kernel
theorem dX10_soonest_65 : decode cX10_soonest 65 = .ok (.iload_n 3, 1) := by decide +kernel
theorem dX10_soonest_66 : decode cX10_soonest 66 = .ok (.bipush (-2), 2) := by decide +kernel
theorem dX10_soonest_68 : decode cX10_soonest 68 = .ok (.if_icmp .ne 13, 3) := by decide +kernel
theorem dX10_soonest_71 : decode cX10_soonest 71 = .ok (.iload_n 2, 1) := by decide +kernel
theorem dX10_soonest_72 : decode cX10_soonest 72 = .ok (.aload_n 0, 1) := by decide +kernel
theorem dX10_soonest_73 : decode cX10_soonest 73 = .ok (.getfield 36, 3) := by decide +kernel
theorem dX10_soonest_76 : decode cX10_soonest 76 = .ok (.getfield 218, 3) := by decide +kernel
theorem dX10_soonest_79 : decode cX10_soonest 79 = .ok (.iadd, 1) := by decide +kernel
theorem dX10_soonest_80 : decode cX10_soonest 80 = .ok (.ireturn, 1) := by decide +kernel
theorem dX10_soonest_81 : decode cX10_soonest 81 = .ok (.iload_n 3, 1) := by decide +kernel
theorem dX10_soonest_82 : decode cX10_soonest 82 = .ok (.iconst (-1), 1) := by decide +kernel
theorem dX10_soonest_83 : decode cX10_soonest 83 = .ok (.if_icmp .ne 15, 3) := by decide +kernel
theorem dX10_soonest_86 : decode cX10_soonest 86 = .ok (.iload_n 2, 1) := by decide +kernel
theorem dX10_soonest_87 : decode cX10_soonest 87 = .ok (.aload_n 0, 1) := by decide +kernel
theorem dX10_soonest_88 : decode cX10_soonest 88 = .ok (.getfield 36, 3) := by decide +kernel
theorem dX10_soonest_91 : decode cX10_soonest 91 = .ok (.getfield 222, 3) := by decide +kernel
theorem dX10_soonest_94 : decode cX10_soonest 94 = .ok (.iadd, 1) := by decide +kernel
theorem dX10_soonest_95 : decode cX10_soonest 95 = .ok (.goto 12, 3) := by decide +kernel
theorem dX10_soonest_98 : decode cX10_soonest 98 = .ok (.aload_n 0, 1) := by decide +kernel
theorem dX10_soonest_99 : decode cX10_soonest 99 = .ok (.getfield 36, 3) := by decide +kernel
theorem dX10_soonest_102 : decode cX10_soonest 102 = .ok (.getfield 224, 3) := by decide +kernel
theorem dX10_soonest_105 : decode cX10_soonest 105 = .ok (.iload_n 3, 1) := by decide +kernel
theorem dX10_soonest_106 : decode cX10_soonest 106 = .ok (.iaload, 1) := by decide +kernel
theorem dX10_soonest_107 : decode cX10_soonest 107 = .ok (.ireturn, 1) := by decide +kernel
theorem dX10_full_0 : decode cX10_full 0 = .ok (.aload_n 0, 1) := by decide +kernel
theorem dX10_full_1 : decode cX10_full 1 = .ok (.iload_n 1, 1) := by decide +kernel
theorem dX10_full_2 : decode cX10_full 2 = .ok (.iload_n 2, 1) := by decide +kernel
theorem dX10_full_3 : decode cX10_full 3 = .ok (.invokevirtual 210, 3) := by decide +kernel
theorem dX10_full_6 : decode cX10_full 6 = .ok (.ifCond .eq 12, 3) := by decide +kernel
theorem dX10_full_9 : decode cX10_full 9 = .ok (.iload_n 3, 1) := by decide +kernel
theorem dX10_full_10 : decode cX10_full 10 = .ok (.iconst 0, 1) := by decide +kernel
theorem dX10_full_11 : decode cX10_full 11 = .ok (.iconst 2, 1) := by decide +kernel
theorem dX10_full_12 : decode cX10_full 12 = .ok (.invokestatic 54, 3) := by decide +kernel
theorem dX10_full_15 : decode cX10_full 15 = .ok (.ifCond .ne 5, 3) := by decide +kernel
theorem dX10_full_18 : decode cX10_full 18 = .ok (.iconst (-1), 1) := by decide +kernel
theorem dX10_full_19 : decode cX10_full 19 = .ok (.ireturn, 1) := by decide +kernel
theorem dX10_full_20 : decode cX10_full 20 = .ok (.aload_n 0, 1) := by decide +kernel
theorem dX10_full_21 : decode cX10_full 21 = .ok (.iload_n 1, 1) := by decide +kernel
theorem dX10_full_22 : decode cX10_full 22 = .ok (.iload_n 2, 1) := by decide +kernel
theorem dX10_full_23 : decode cX10_full 23 = .ok (.invokevirtual 200, 3) := by decide +kernel
theorem dX10_full_26 : decode cX10_full 26 = .ok (.aload_n 0, 1) := by decide +kernel
theorem dX10_full_27 : decode cX10_full 27 = .ok (.getfield 29, 3) := by decide +kernel
theorem dX10_full_30 : decode cX10_full 30 = .ok (.iload_n 3, 1) := by decide +kernel
theorem dX10_full_31 : decode cX10_full 31 = .ok (.invokevirtual 228, 3) := by decide +kernel
theorem dX10_full_34 : decode cX10_full 34 = .ok (.ireturn, 1) := by decide +kernel
theorem dX10_fog_0 : decode cX10_fog 0 = .ok (.aload_n 0, 1) := by decide +kernel
theorem dX10_fog_1 : decode cX10_fog 1 = .ok (.iload_n 1, 1) := by decide +kernel
theorem dX10_fog_2 : decode cX10_fog 2 = .ok (.iload_n 2, 1) := by decide +kernel
theorem dX10_fog_3 : decode cX10_fog 3 = .ok (.invokevirtual 210, 3) := by decide +kernel
theorem dX10_fog_6 : decode cX10_fog 6 = .ok (.ifCond .eq 12, 3) := by decide +kernel
theorem dX10_fog_9 : decode cX10_fog 9 = .ok (.iload_n 3, 1) := by decide +kernel
theorem dX10_fog_10 : decode cX10_fog 10 = .ok (.iconst 0, 1) := by decide +kernel
theorem dX10_fog_11 : decode cX10_fog 11 = .ok (.iconst 1, 1) := by decide +kernel
theorem dX10_fog_12 : decode cX10_fog 12 = .ok (.invokestatic 54, 3) := by decide +kernel
theorem dX10_fog_15 : decode cX10_fog 15 = .ok (.ifCond .ne 5, 3) := by decide +kernel
theorem dX10_fog_18 : decode cX10_fog 18 = .ok (.iconst (-1), 1) := by decide +kernel
theorem dX10_fog_19 : decode cX10_fog 19 = .ok (.ireturn, 1) := by decide +kernel
theorem dX10_fog_20 : decode cX10_fog 20 = .ok (.aload_n 0, 1) := by decide +kernel
theorem dX10_fog_21 : decode cX10_fog 21 = .ok (.getfield 29, 3) := by decide +kernel
theorem dX10_fog_24 : decode cX10_fog 24 = .ok (.aload_n 0, 1) := by decide +kernel
theorem dX10_fog_25 : decode cX10_fog 25 = .ok (.getfield 12, 3) := by decide +kernel
theorem dX10_fog_28 : decode cX10_fog 28 = .ok (.aload_n 0, 1) := by decide +kernel
theorem dX10_fog_29 : decode cX10_fog 29 = .ok (.getfield 12, 3) := by decide +kernel
theorem dX10_fog_32 : decode cX10_fog 32 = .ok (.getfield 85, 3) := by decide +kernel
theorem dX10_fog_35 : decode cX10_fog 35 = .ok (.iload_n 1, 1) := by decide +kernel
theorem dX10_fog_36 : decode cX10_fog 36 = .ok (.aaload, 1) := by decide +kernel
theorem dX10_fog_37 : decode cX10_fog 37 = .ok (.iload_n 2, 1) := by decide +kernel
theorem dX10_fog_38 : decode cX10_fog 38 = .ok (.invokevirtual 232, 3) := by decide +kernel
theorem dX10_fog_41 : decode cX10_fog 41 = .ok (.aload_n 0, 1) := by decide +kernel
theorem dX10_fog_42 : decode cX10_fog 42 = .ok (.getfield 29, 3) := by decide +kernel
theorem dX10_fog_45 : decode cX10_fog 45 = .ok (.aload_n 0, 1) := by decide +kernel
theorem dX10_fog_46 : decode cX10_fog 46 = .ok (.getfield 12, 3) := by decide +kernel
theorem dX10_fog_49 : decode cX10_fog 49 = .ok (.invokevirtual 235, 3) := by decide +kernel
theorem dX10_fog_52 : decode cX10_fog 52 = .ok (.istore 4, 2) := by decide +kernel
theorem dX10_fog_54 : decode cX10_fog 54 = .ok (.iload 4, 2) := by decide +kernel
theorem dX10_fog_56 : decode cX10_fog 56 = .ok (.ifCond .ne 5, 3) := by decide +kernel
theorem dX10_fog_59 : decode cX10_fog 59 = .ok (.iload_n 3, 1) := by decide +kernel
theorem dX10_fog_60 : decode cX10_fog 60 = .ok (.ireturn, 1) := by decide +kernel
theorem dX10_fog_61 : decode cX10_fog 61 = .ok (.iconst 1, 1) := by decide +kernel
theorem dX10_fog_62 : decode cX10_fog 62 = .ok (.iconst 2, 1) := by decide +kernel
theorem dX10_fog_63 : decode cX10_fog 63 = .ok (.aload_n 0, 1) := by decide +kernel
theorem dX10_fog_64 : decode cX10_fog 64 = .ok (.getfield 12, 3) := by decide +kernel
theorem dX10_fog_67 : decode cX10_fog 67 = .ok (.getfield 58, 3) := by decide +kernel
theorem dX10_fog_70 : decode cX10_fog 70 = .ok (.imul, 1) := by decide +kernel
theorem dX10_fog_71 : decode cX10_fog 71 = .ok (.ishl, 1) := by decide +kernel
theorem dX10_fog_72 : decode cX10_fog 72 = .ok (.istore 5, 2) := by decide +kernel
theorem dX10_fog_74 : decode cX10_fog 74 = .ok (.iload 4, 2) := by decide +kernel
theorem dX10_fog_76 : decode cX10_fog 76 = .ok (.iconst 2, 1) := by decide +kernel
theorem dX10_fog_77 : decode cX10_fog 77 = .ok (.irem, 1) := by decide +kernel
theorem dX10_fog_78 : decode cX10_fog 78 = .ok (.ifCond .ne 24, 3) := by decide +kernel
theorem dX10_fog_81 : decode cX10_fog 81 = .ok (.iload 5, 2) := by decide +kernel
theorem dX10_fog_83 : decode cX10_fog 83 = .ok (.iconst 1, 1) := by decide +kernel
theorem dX10_fog_84 : decode cX10_fog 84 = .ok (.if_icmp .le 18, 3) := by decide +kernel
theorem dX10_fog_87 : decode cX10_fog 87 = .ok (.iload 4, 2) := by decide +kernel
theorem dX10_fog_89 : decode cX10_fog 89 = .ok (.iconst 2, 1) := by decide +kernel
theorem dX10_fog_90 : decode cX10_fog 90 = .ok (.idiv, 1) := by decide +kernel
theorem dX10_fog_91 : decode cX10_fog 91 = .ok (.istore 4, 2) := by decide +kernel
theorem dX10_fog_93 : decode cX10_fog 93 = .ok (.iload 5, 2) := by decide +kernel
theorem dX10_fog_95 : decode cX10_fog 95 = .ok (.iconst 2, 1) := by decide +kernel
theorem dX10_fog_96 : decode cX10_fog 96 = .ok (.idiv, 1) := by decide +kernel
theorem dX10_fog_97 : decode cX10_fog 97 = .ok (.istore 5, 2) := by decide +kernel
theorem dX10_fog_99 : decode cX10_fog 99 = .ok (.goto (-25), 3) := by decide +kernel
theorem dX10_fog_102 : decode cX10_fog 102 = .ok (.iload_n 3, 1) := by decide +kernel
theorem dX10_fog_103 : decode cX10_fog 103 = .ok (.ifCond .ne 8, 3) := by decide +kernel
theorem dX10_fog_106 : decode cX10_fog 106 = .ok (.iload 4, 2) := by decide +kernel
theorem dX10_fog_108 : decode cX10_fog 108 = .ok (.goto 5, 3) := by decide +kernel
theorem dX10_fog_111 : decode cX10_fog 111 = .ok (.iload 5, 2) := by decide +kernel
theorem dX10_fog_113 : decode cX10_fog 113 = .ok (.ireturn, 1) := by decide +kernel
theorem dX10_sure_0 : decode cX10_sure 0 = .ok (.aload_n 0, 1) := by decide +kernel
theorem dX10_sure_1 : decode cX10_sure 1 = .ok (.iload_n 1, 1) := by decide +kernel
theorem dX10_sure_2 : decode cX10_sure 2 = .ok (.iload_n 2, 1) := by decide +kernel
theorem dX10_sure_3 : decode cX10_sure 3 = .ok (.invokevirtual 210, 3) := by decide +kernel
theorem dX10_sure_6 : decode cX10_sure 6 = .ok (.ifCond .ne 5, 3) := by decide +kernel
theorem dX10_sure_9 : decode cX10_sure 9 = .ok (.iconst (-1), 1) := by decide +kernel
theorem dX10_sure_10 : decode cX10_sure 10 = .ok (.ireturn, 1) := by decide +kernel
theorem dX10_sure_11 : decode cX10_sure 11 = .ok (.iload_n 2, 1) := by decide +kernel
theorem dX10_sure_12 : decode cX10_sure 12 = .ok (.istore_n 3, 1) := by decide +kernel
theorem dX10_sure_13 : decode cX10_sure 13 = .ok (.iconst (-1), 1) := by decide +kernel
theorem dX10_sure_14 : decode cX10_sure 14 = .ok (.istore 4, 2) := by decide +kernel
theorem dX10_sure_16 : decode cX10_sure 16 = .ok (.iload_n 2, 1) := by decide +kernel
theorem dX10_sure_17 : decode cX10_sure 17 = .ok (.istore 5, 2) := by decide +kernel
theorem dX10_sure_19 : decode cX10_sure 19 = .ok (.iload 5, 2) := by decide +kernel
theorem dX10_sure_21 : decode cX10_sure 21 = .ok (.iload_n 2, 1) := by decide +kernel
theorem dX10_sure_22 : decode cX10_sure 22 = .ok (.bipush 60, 2) := by decide +kernel
theorem dX10_sure_24 : decode cX10_sure 24 = .ok (.iadd, 1) := by decide +kernel
theorem dX10_sure_25 : decode cX10_sure 25 = .ok (.if_icmp .ge 58, 3) := by decide +kernel
theorem dX10_sure_28 : decode cX10_sure 28 = .ok (.aload_n 0, 1) := by decide +kernel
theorem dX10_sure_29 : decode cX10_sure 29 = .ok (.getfield 29, 3) := by decide +kernel
theorem dX10_sure_32 : decode cX10_sure 32 = .ok (.aload_n 0, 1) := by decide +kernel
theorem dX10_sure_33 : decode cX10_sure 33 = .ok (.getfield 12, 3) := by decide +kernel
theorem dX10_sure_36 : decode cX10_sure 36 = .ok (.aload_n 0, 1) := by decide +kernel
theorem dX10_sure_37 : decode cX10_sure 37 = .ok (.getfield 12, 3) := by decide +kernel
theorem dX10_sure_40 : decode cX10_sure 40 = .ok (.getfield 85, 3) := by decide +kernel
theorem dX10_sure_43 : decode cX10_sure 43 = .ok (.iload_n 1, 1) := by decide +kernel
theorem dX10_sure_44 : decode cX10_sure 44 = .ok (.aaload, 1) := by decide +kernel
theorem dX10_sure_45 : decode cX10_sure 45 = .ok (.iload 5, 2) := by decide +kernel
theorem dX10_sure_47 : decode cX10_sure 47 = .ok (.invokevirtual 232, 3) := by decide +kernel
theorem dX10_sure_50 : decode cX10_sure 50 = .ok (.aload_n 0, 1) := by decide +kernel
theorem dX10_sure_51 : decode cX10_sure 51 = .ok (.getfield 29, 3) := by decide +kernel
theorem dX10_sure_54 : decode cX10_sure 54 = .ok (.aload_n 0, 1) := by decide +kernel
theorem dX10_sure_55 : decode cX10_sure 55 = .ok (.getfield 12, 3) := by decide +kernel
theorem dX10_sure_58 : decode cX10_sure 58 = .ok (.invokevirtual 235, 3) := by decide +kernel
theorem dX10_sure_61 : decode cX10_sure 61 = .ok (.istore 6, 2) := by decide +kernel
theorem dX10_sure_63 : decode cX10_sure 63 = .ok (.iload 6, 2) := by decide +kernel
theorem dX10_sure_65 : decode cX10_sure 65 = .ok (.iload 4, 2) := by decide +kernel
theorem dX10_sure_67 : decode cX10_sure 67 = .ok (.if_icmp .le 10, 3) := by decide +kernel
theorem dX10_sure_70 : decode cX10_sure 70 = .ok (.iload 6, 2) := by decide +kernel
theorem dX10_sure_72 : decode cX10_sure 72 = .ok (.istore 4, 2) := by decide +kernel
theorem dX10_sure_74 : decode cX10_sure 74 = .ok (.iload 5, 2) := by decide +kernel
theorem dX10_sure_76 : decode cX10_sure 76 = .ok (.istore_n 3, 1) := by decide +kernel
theorem dX10_sure_77 : decode cX10_sure 77 = .ok (.iinc 5 1, 3) := by decide +kernel
theorem dX10_sure_80 : decode cX10_sure 80 = .ok (.goto (-61), 3) := by decide +kernel
theorem dX10_sure_83 : decode cX10_sure 83 = .ok (.iload_n 3, 1) := by decide +kernel
theorem dX10_sure_84 : decode cX10_sure 84 = .ok (.ireturn, 1) := by decide +kernel
theorem dX10_stones_0 : decode cX10_stones 0 = .ok (.aload_n 0, 1) := by decide +kernel
theorem dX10_stones_1 : decode cX10_stones 1 = .ok (.iload_n 1, 1) := by decide +kernel
theorem dX10_stones_2 : decode cX10_stones 2 = .ok (.iload_n 2, 1) := by decide +kernel
theorem dX10_stones_3 : decode cX10_stones 3 = .ok (.invokevirtual 210, 3) := by decide +kernel
theorem dX10_stones_6 : decode cX10_stones 6 = .ok (.ifCond .eq 20, 3) := by decide +kernel
theorem dX10_stones_9 : decode cX10_stones 9 = .ok (.iload_n 3, 1) := by decide +kernel
theorem dX10_stones_10 : decode cX10_stones 10 = .ok (.iconst (-1), 1) := by decide +kernel
theorem dX10_stones_11 : decode cX10_stones 11 = .ok (.aload_n 0, 1) := by decide +kernel
theorem dX10_stones_12 : decode cX10_stones 12 = .ok (.getfield 12, 3) := by decide +kernel
theorem dX10_stones_15 : decode cX10_stones 15 = .ok (.getfield 58, 3) := by decide +kernel
theorem dX10_stones_18 : decode cX10_stones 18 = .ok (.iconst 1, 1) := by decide +kernel
theorem dX10_stones_19 : decode cX10_stones 19 = .ok (.isub, 1) := by decide +kernel
theorem dX10_stones_20 : decode cX10_stones 20 = .ok (.invokestatic 54, 3) := by decide +kernel
theorem dX10_stones_23 : decode cX10_stones 23 = .ok (.ifCond .ne 5, 3) := by decide +kernel
theorem dX10_stones_26 : decode cX10_stones 26 = .ok (.iconst (-1), 1) := by decide +kernel
theorem dX10_stones_27 : decode cX10_stones 27 = .ok (.ireturn, 1) := by decide +kernel
theorem dX10_stones_28 : decode cX10_stones 28 = .ok (.aload_n 0, 1) := by decide +kernel
theorem dX10_stones_29 : decode cX10_stones 29 = .ok (.getfield 29, 3) := by decide +kernel
theorem dX10_stones_32 : decode cX10_stones 32 = .ok (.aload_n 0, 1) := by decide +kernel
theorem dX10_stones_33 : decode cX10_stones 33 = .ok (.getfield 12, 3) := by decide +kernel
theorem dX10_stones_36 : decode cX10_stones 36 = .ok (.aload_n 0, 1) := by decide +kernel
theorem dX10_stones_37 : decode cX10_stones 37 = .ok (.getfield 12, 3) := by decide +kernel
theorem dX10_stones_40 : decode cX10_stones 40 = .ok (.getfield 85, 3) := by decide +kernel
theorem dX10_stones_43 : decode cX10_stones 43 = .ok (.iload_n 1, 1) := by decide +kernel
theorem dX10_stones_44 : decode cX10_stones 44 = .ok (.aaload, 1) := by decide +kernel
theorem dX10_stones_45 : decode cX10_stones 45 = .ok (.iload_n 2, 1) := by decide +kernel
theorem dX10_stones_46 : decode cX10_stones 46 = .ok (.invokevirtual 232, 3) := by decide +kernel
theorem dX10_stones_49 : decode cX10_stones 49 = .ok (.iconst 0, 1) := by decide +kernel
theorem dX10_stones_50 : decode cX10_stones 50 = .ok (.istore 4, 2) := by decide +kernel
theorem dX10_stones_52 : decode cX10_stones 52 = .ok (.iconst 0, 1) := by decide +kernel
theorem dX10_stones_53 : decode cX10_stones 53 = .ok (.istore 5, 2) := by decide +kernel
theorem dX10_stones_55 : decode cX10_stones 55 = .ok (.iconst 0, 1) := by decide +kernel
theorem dX10_stones_56 : decode cX10_stones 56 = .ok (.istore 6, 2) := by decide +kernel
theorem dX10_stones_58 : decode cX10_stones 58 = .ok (.iload 6, 2) := by decide +kernel
theorem dX10_stones_60 : decode cX10_stones 60 = .ok (.aload_n 0, 1) := by decide +kernel
theorem dX10_stones_61 : decode cX10_stones 61 = .ok (.getfield 12, 3) := by decide +kernel
theorem dX10_stones_64 : decode cX10_stones 64 = .ok (.getfield 58, 3) := by decide +kernel
theorem dX10_stones_67 : decode cX10_stones 67 = .ok (.if_icmp .ge 56, 3) := by decide +kernel
theorem dX10_stones_70 : decode cX10_stones 70 = .ok (.aload_n 0, 1) := by decide +kernel
theorem dX10_stones_71 : decode cX10_stones 71 = .ok (.getfield 29, 3) := by decide +kernel
theorem dX10_stones_74 : decode cX10_stones 74 = .ok (.aload_n 0, 1) := by decide +kernel
theorem dX10_stones_75 : decode cX10_stones 75 = .ok (.getfield 12, 3) := by decide +kernel
theorem dX10_stones_78 : decode cX10_stones 78 = .ok (.iload 6, 2) := by decide +kernel
theorem dX10_stones_80 : decode cX10_stones 80 = .ok (.invokevirtual 239, 3) := by decide +kernel
theorem dX10_stones_83 : decode cX10_stones 83 = .ok (.istore 7, 2) := by decide +kernel
theorem dX10_stones_85 : decode cX10_stones 85 = .ok (.iload 7, 2) := by decide +kernel
theorem dX10_stones_87 : decode cX10_stones 87 = .ok (.bipush (-4), 2) := by decide +kernel
theorem dX10_stones_89 : decode cX10_stones 89 = .ok (.if_icmp .ne 6, 3) := by decide +kernel
theorem dX10_stones_92 : decode cX10_stones 92 = .ok (.bipush (-4), 2) := by decide +kernel
theorem dX10_stones_94 : decode cX10_stones 94 = .ok (.ireturn, 1) := by decide +kernel
theorem dX10_stones_95 : decode cX10_stones 95 = .ok (.iload 4, 2) := by decide +kernel
theorem dX10_stones_97 : decode cX10_stones 97 = .ok (.iload 7, 2) := by decide +kernel
theorem dX10_stones_99 : decode cX10_stones 99 = .ok (.iadd, 1) := by decide +kernel
theorem dX10_stones_100 : decode cX10_stones 100 = .ok (.istore 4, 2) := by decide +kernel
theorem dX10_stones_102 : decode cX10_stones 102 = .ok (.iload 6, 2) := by decide +kernel
theorem dX10_stones_104 : decode cX10_stones 104 = .ok (.iload_n 3, 1) := by decide +kernel
theorem dX10_stones_105 : decode cX10_stones 105 = .ok (.if_icmp .ne 8, 3) := by decide +kernel
theorem dX10_stones_108 : decode cX10_stones 108 = .ok (.iload 7, 2) := by decide +kernel
theorem dX10_stones_110 : decode cX10_stones 110 = .ok (.goto 5, 3) := by decide +kernel
theorem dX10_stones_113 : decode cX10_stones 113 = .ok (.iload 5, 2) := by decide +kernel
theorem dX10_stones_115 : decode cX10_stones 115 = .ok (.istore 5, 2) := by decide +kernel
theorem dX10_stones_117 : decode cX10_stones 117 = .ok (.iinc 6 1, 3) := by decide +kernel
theorem dX10_stones_120 : decode cX10_stones 120 = .ok (.goto (-62), 3) := by decide +kernel
theorem dX10_stones_123 : decode cX10_stones 123 = .ok (.iload_n 3, 1) := by decide +kernel
theorem dX10_stones_124 : decode cX10_stones 124 = .ok (.iconst (-1), 1) := by decide +kernel
theorem dX10_stones_125 : decode cX10_stones 125 = .ok (.if_icmp .ne 8, 3) := by decide +kernel
theorem dX10_stones_128 : decode cX10_stones 128 = .ok (.iload 4, 2) := by decide +kernel
theorem dX10_stones_130 : decode cX10_stones 130 = .ok (.goto 5, 3) := by decide +kernel
theorem dX10_stones_133 : decode cX10_stones 133 = .ok (.iload 5, 2) := by decide +kernel
theorem dX10_stones_135 : decode cX10_stones 135 = .ok (.ireturn, 1) := by decide +kernel
theorem dX10_convoy_0 : decode cX10_convoy 0 = .ok (.aload_n 0, 1) := by decide +kernel
theorem dX10_convoy_1 : decode cX10_convoy 1 = .ok (.iload_n 1, 1) := by decide +kernel
theorem dX10_convoy_2 : decode cX10_convoy 2 = .ok (.invokevirtual 72, 3) := by decide +kernel
theorem dX10_convoy_5 : decode cX10_convoy 5 = .ok (.ifCond .eq 33, 3) := by decide +kernel
theorem dX10_convoy_8 : decode cX10_convoy 8 = .ok (.iload_n 2, 1) := by decide +kernel
theorem dX10_convoy_9 : decode cX10_convoy 9 = .ok (.iconst 0, 1) := by decide +kernel
theorem dX10_convoy_10 : decode cX10_convoy 10 = .ok (.sipush 9999, 3) := by decide +kernel
theorem dX10_convoy_13 : decode cX10_convoy 13 = .ok (.invokestatic 54, 3) := by decide +kernel
theorem dX10_convoy_16 : decode cX10_convoy 16 = .ok (.ifCond .eq 22, 3) := by decide +kernel
theorem dX10_convoy_19 : decode cX10_convoy 19 = .ok (.iload_n 3, 1) := by decide +kernel
theorem dX10_convoy_20 : decode cX10_convoy 20 = .ok (.iconst 0, 1) := by decide +kernel
theorem dX10_convoy_21 : decode cX10_convoy 21 = .ok (.iconst 1, 1) := by decide +kernel
theorem dX10_convoy_22 : decode cX10_convoy 22 = .ok (.aload_n 0, 1) := by decide +kernel
theorem dX10_convoy_23 : decode cX10_convoy 23 = .ok (.getfield 12, 3) := by decide +kernel
theorem dX10_convoy_26 : decode cX10_convoy 26 = .ok (.getfield 82, 3) := by decide +kernel
theorem dX10_convoy_29 : decode cX10_convoy 29 = .ok (.ishl, 1) := by decide +kernel
theorem dX10_convoy_30 : decode cX10_convoy 30 = .ok (.iconst 1, 1) := by decide +kernel
theorem dX10_convoy_31 : decode cX10_convoy 31 = .ok (.isub, 1) := by decide +kernel
theorem dX10_convoy_32 : decode cX10_convoy 32 = .ok (.invokestatic 54, 3) := by decide +kernel
theorem dX10_convoy_35 : decode cX10_convoy 35 = .ok (.ifCond .ne 5, 3) := by decide +kernel
theorem dX10_convoy_38 : decode cX10_convoy 38 = .ok (.iconst (-1), 1) := by decide +kernel
theorem dX10_convoy_39 : decode cX10_convoy 39 = .ok (.ireturn, 1) := by decide +kernel
theorem dX10_convoy_40 : decode cX10_convoy 40 = .ok (.aload_n 0, 1) := by decide +kernel
theorem dX10_convoy_41 : decode cX10_convoy 41 = .ok (.getfield 12, 3) := by decide +kernel
theorem dX10_convoy_44 : decode cX10_convoy 44 = .ok (.getfield 62, 3) := by decide +kernel
theorem dX10_convoy_47 : decode cX10_convoy 47 = .ok (.iload_n 1, 1) := by decide +kernel
theorem dX10_convoy_48 : decode cX10_convoy 48 = .ok (.aaload, 1) := by decide +kernel
theorem dX10_convoy_49 : decode cX10_convoy 49 = .ok (.astore 4, 2) := by decide +kernel
theorem dX10_convoy_51 : decode cX10_convoy 51 = .ok (.aload 4, 2) := by decide +kernel
theorem dX10_convoy_53 : decode cX10_convoy 53 = .ok (.iload_n 2, 1) := by decide +kernel
theorem dX10_convoy_54 : decode cX10_convoy 54 = .ok (.iload_n 2, 1) := by decide +kernel
theorem dX10_convoy_55 : decode cX10_convoy 55 = .ok (.bipush 55, 2) := by decide +kernel
theorem dX10_convoy_57 : decode cX10_convoy 57 = .ok (.iadd, 1) := by decide +kernel
theorem dX10_convoy_58 : decode cX10_convoy 58 = .ok (.aload 4, 2) := by decide +kernel
theorem dX10_convoy_60 : decode cX10_convoy 60 = .ok (.getfield 79, 3) := by decide +kernel
theorem dX10_convoy_63 : decode cX10_convoy 63 = .ok (.invokevirtual 243, 3) := by decide +kernel
theorem dX10_convoy_66 : decode cX10_convoy 66 = .ok (.iload_n 2, 1) := by decide +kernel
theorem dX10_convoy_67 : decode cX10_convoy 67 = .ok (.isub, 1) := by decide +kernel
theorem dX10_convoy_68 : decode cX10_convoy 68 = .ok (.istore 5, 2) := by decide +kernel
theorem dX10_convoy_70 : decode cX10_convoy 70 = .ok (.iconst 0, 1) := by decide +kernel
theorem dX10_convoy_71 : decode cX10_convoy 71 = .ok (.istore 6, 2) := by decide +kernel
theorem dX10_convoy_73 : decode cX10_convoy 73 = .ok (.iconst 1, 1) := by decide +kernel
theorem dX10_convoy_74 : decode cX10_convoy 74 = .ok (.istore 7, 2) := by decide +kernel
theorem dX10_convoy_76 : decode cX10_convoy 76 = .ok (.iload 7, 2) := by decide +kernel
theorem dX10_convoy_78 : decode cX10_convoy 78 = .ok (.iload_n 3, 1) := by decide +kernel
theorem dX10_convoy_79 : decode cX10_convoy 79 = .ok (.if_icmp .gt 58, 3) := by decide +kernel
theorem dX10_convoy_82 : decode cX10_convoy 82 = .ok (.iload 7, 2) := by decide +kernel
theorem dX10_convoy_84 : decode cX10_convoy 84 = .ok (.iload_n 3, 1) := by decide +kernel
theorem dX10_convoy_85 : decode cX10_convoy 85 = .ok (.iconst (-1), 1) := by decide +kernel
theorem dX10_convoy_86 : decode cX10_convoy 86 = .ok (.ixor, 1) := by decide +kernel
theorem dX10_convoy_87 : decode cX10_convoy 87 = .ok (.iand, 1) := by decide +kernel
theorem dX10_convoy_88 : decode cX10_convoy 88 = .ok (.ifCond .ne 7, 3) := by decide +kernel
theorem dX10_convoy_91 : decode cX10_convoy 91 = .ok (.iconst 1, 1) := by decide +kernel
theorem dX10_convoy_92 : decode cX10_convoy 92 = .ok (.goto 4, 3) := by decide +kernel
theorem dX10_convoy_95 : decode cX10_convoy 95 = .ok (.iconst 0, 1) := by decide +kernel
theorem dX10_convoy_96 : decode cX10_convoy 96 = .ok (.istore 8, 2) := by decide +kernel
theorem dX10_convoy_98 : decode cX10_convoy 98 = .ok (.iload 8, 2) := by decide +kernel
theorem dX10_convoy_100 : decode cX10_convoy 100 = .ok (.ifCond .eq 31, 3) := by decide +kernel
theorem dX10_convoy_103 : decode cX10_convoy 103 = .ok (.iload 7, 2) := by decide +kernel
theorem dX10_convoy_105 : decode cX10_convoy 105 = .ok (.invokestatic 247, 3) := by decide +kernel
theorem dX10_convoy_108 : decode cX10_convoy 108 = .ok (.iload 6, 2) := by decide +kernel
theorem dX10_convoy_110 : decode cX10_convoy 110 = .ok (.invokestatic 247, 3) := by decide +kernel
theorem dX10_convoy_113 : decode cX10_convoy 113 = .ok (.if_icmp .le 18, 3) := by decide +kernel
theorem dX10_convoy_116 : decode cX10_convoy 116 = .ok (.aload_n 0, 1) := by decide +kernel
theorem dX10_convoy_117 : decode cX10_convoy 117 = .ok (.iload 7, 2) := by decide +kernel
theorem dX10_convoy_119 : decode cX10_convoy 119 = .ok (.invokevirtual 252, 3) := by decide +kernel
theorem dX10_convoy_122 : decode cX10_convoy 122 = .ok (.iload 5, 2) := by decide +kernel
theorem dX10_convoy_124 : decode cX10_convoy 124 = .ok (.if_icmp .gt 7, 3) := by decide +kernel
theorem dX10_convoy_127 : decode cX10_convoy 127 = .ok (.iload 7, 2) := by decide +kernel
theorem dX10_convoy_129 : decode cX10_convoy 129 = .ok (.istore 6, 2) := by decide +kernel
theorem dX10_convoy_131 : decode cX10_convoy 131 = .ok (.iinc 7 1, 3) := by decide +kernel
theorem dX10_convoy_134 : decode cX10_convoy 134 = .ok (.goto (-58), 3) := by decide +kernel
theorem dX10_convoy_137 : decode cX10_convoy 137 = .ok (.iload 6, 2) := by decide +kernel
theorem dX10_convoy_139 : decode cX10_convoy 139 = .ok (.ireturn, 1) := by decide +kernel
theorem dX10_rudder_0 : decode cX10_rudder 0 = .ok (.aload_n 0, 1) := by decide +kernel
theorem dX10_rudder_1 : decode cX10_rudder 1 = .ok (.iload_n 1, 1) := by decide +kernel
theorem dX10_rudder_2 : decode cX10_rudder 2 = .ok (.iload_n 2, 1) := by decide +kernel
theorem dX10_rudder_3 : decode cX10_rudder 3 = .ok (.invokevirtual 210, 3) := by decide +kernel
theorem dX10_rudder_6 : decode cX10_rudder 6 = .ok (.ifCond .eq 14, 3) := by decide +kernel
theorem dX10_rudder_9 : decode cX10_rudder 9 = .ok (.iload_n 3, 1) := by decide +kernel
theorem dX10_rudder_10 : decode cX10_rudder 10 = .ok (.iconst 0, 1) := by decide +kernel
theorem dX10_rudder_11 : decode cX10_rudder 11 = .ok (.sipush 999, 3) := by decide +kernel
theorem dX10_rudder_14 : decode cX10_rudder 14 = .ok (.invokestatic 54, 3) := by decide +kernel
theorem dX10_rudder_17 : decode cX10_rudder 17 = .ok (.ifCond .ne 5, 3) := by decide +kernel
theorem dX10_rudder_20 : decode cX10_rudder 20 = .ok (.iconst (-1), 1) := by decide +kernel
theorem dX10_rudder_21 : decode cX10_rudder 21 = .ok (.ireturn, 1) := by decide +kernel
theorem dX10_rudder_22 : decode cX10_rudder 22 = .ok (.iconst 0, 1) := by decide +kernel
theorem dX10_rudder_23 : decode cX10_rudder 23 = .ok (.istore 4, 2) := by decide +kernel
theorem dX10_rudder_25 : decode cX10_rudder 25 = .ok (.iload_n 2, 1) := by decide +kernel
theorem dX10_rudder_26 : decode cX10_rudder 26 = .ok (.istore 5, 2) := by decide +kernel
theorem dX10_rudder_28 : decode cX10_rudder 28 = .ok (.iload 5, 2) := by decide +kernel
theorem dX10_rudder_30 : decode cX10_rudder 30 = .ok (.iload_n 2, 1) := by decide +kernel
theorem dX10_rudder_31 : decode cX10_rudder 31 = .ok (.iload_n 3, 1) := by decide +kernel
theorem dX10_rudder_32 : decode cX10_rudder 32 = .ok (.iadd, 1) := by decide +kernel
theorem dX10_rudder_33 : decode cX10_rudder 33 = .ok (.if_icmp .gt 44, 3) := by decide +kernel
theorem dX10_rudder_36 : decode cX10_rudder 36 = .ok (.aload_n 0, 1) := by decide +kernel
theorem dX10_rudder_37 : decode cX10_rudder 37 = .ok (.iload_n 1, 1) := by decide +kernel
theorem dX10_rudder_38 : decode cX10_rudder 38 = .ok (.iload 5, 2) := by decide +kernel
theorem dX10_rudder_40 : decode cX10_rudder 40 = .ok (.invokevirtual 200, 3) := by decide +kernel
theorem dX10_rudder_43 : decode cX10_rudder 43 = .ok (.iload 4, 2) := by decide +kernel
theorem dX10_rudder_45 : decode cX10_rudder 45 = .ok (.aload_n 0, 1) := by decide +kernel
theorem dX10_rudder_46 : decode cX10_rudder 46 = .ok (.getfield 29, 3) := by decide +kernel
theorem dX10_rudder_49 : decode cX10_rudder 49 = .ok (.getfield 207, 3) := by decide +kernel
theorem dX10_rudder_52 : decode cX10_rudder 52 = .ok (.bipush (-4), 2) := by decide +kernel
theorem dX10_rudder_54 : decode cX10_rudder 54 = .ok (.if_icmp .ne 13, 3) := by decide +kernel
theorem dX10_rudder_57 : decode cX10_rudder 57 = .ok (.aload_n 0, 1) := by decide +kernel
theorem dX10_rudder_58 : decode cX10_rudder 58 = .ok (.getfield 29, 3) := by decide +kernel
theorem dX10_rudder_61 : decode cX10_rudder 61 = .ok (.getfield 255, 3) := by decide +kernel
theorem dX10_rudder_64 : decode cX10_rudder 64 = .ok (.goto 4, 3) := by decide +kernel
theorem dX10_rudder_67 : decode cX10_rudder 67 = .ok (.iconst 0, 1) := by decide +kernel
theorem dX10_rudder_68 : decode cX10_rudder 68 = .ok (.ior, 1) := by decide +kernel
theorem dX10_rudder_69 : decode cX10_rudder 69 = .ok (.istore 4, 2) := by decide +kernel
theorem dX10_rudder_71 : decode cX10_rudder 71 = .ok (.iinc 5 1, 3) := by decide +kernel
theorem dX10_rudder_74 : decode cX10_rudder 74 = .ok (.goto (-46), 3) := by decide +kernel
theorem dX10_rudder_77 : decode cX10_rudder 77 = .ok (.iload 4, 2) := by decide +kernel
theorem dX10_rudder_79 : decode cX10_rudder 79 = .ok (.ireturn, 1) := by decide +kernel
theorem dX10_worth_0 : decode cX10_worth 0 = .ok (.aload_n 0, 1) := by decide +kernel
theorem dX10_worth_1 : decode cX10_worth 1 = .ok (.iload_n 1, 1) := by decide +kernel
theorem dX10_worth_2 : decode cX10_worth 2 = .ok (.invokevirtual 103, 3) := by decide +kernel
theorem dX10_worth_5 : decode cX10_worth 5 = .ok (.ifCond .eq 11, 3) := by decide +kernel
theorem dX10_worth_8 : decode cX10_worth 8 = .ok (.aload_n 0, 1) := by decide +kernel
theorem dX10_worth_9 : decode cX10_worth 9 = .ok (.iload_n 2, 1) := by decide +kernel
theorem dX10_worth_10 : decode cX10_worth 10 = .ok (.invokevirtual 72, 3) := by decide +kernel
theorem dX10_worth_13 : decode cX10_worth 13 = .ok (.ifCond .ne 5, 3) := by decide +kernel
theorem dX10_worth_16 : decode cX10_worth 16 = .ok (.iconst (-1), 1) := by decide +kernel
theorem dX10_worth_17 : decode cX10_worth 17 = .ok (.ireturn, 1) := by decide +kernel
theorem dX10_worth_18 : decode cX10_worth 18 = .ok (.iconst 0, 1) := by decide +kernel
theorem dX10_worth_19 : decode cX10_worth 19 = .ok (.istore_n 3, 1) := by decide +kernel
theorem dX10_worth_20 : decode cX10_worth 20 = .ok (.iconst 0, 1) := by decide +kernel
theorem dX10_worth_21 : decode cX10_worth 21 = .ok (.istore 4, 2) := by decide +kernel
theorem dX10_worth_23 : decode cX10_worth 23 = .ok (.iload 4, 2) := by decide +kernel
theorem dX10_worth_25 : decode cX10_worth 25 = .ok (.bipush 60, 2) := by decide +kernel
theorem dX10_worth_27 : decode cX10_worth 27 = .ok (.if_icmp .ge 81, 3) := by decide +kernel
theorem dX10_worth_30 : decode cX10_worth 30 = .ok (.aload_n 0, 1) := by decide +kernel
theorem dX10_worth_31 : decode cX10_worth 31 = .ok (.getfield 29, 3) := by decide +kernel
theorem dX10_worth_34 : decode cX10_worth 34 = .ok (.aload_n 0, 1) := by decide +kernel
theorem dX10_worth_35 : decode cX10_worth 35 = .ok (.getfield 12, 3) := by decide +kernel
theorem dX10_worth_38 : decode cX10_worth 38 = .ok (.aload_n 0, 1) := by decide +kernel
theorem dX10_worth_39 : decode cX10_worth 39 = .ok (.getfield 12, 3) := by decide +kernel
theorem dX10_worth_42 : decode cX10_worth 42 = .ok (.getfield 85, 3) := by decide +kernel
theorem dX10_worth_45 : decode cX10_worth 45 = .ok (.iload_n 1, 1) := by decide +kernel
theorem dX10_worth_46 : decode cX10_worth 46 = .ok (.aaload, 1) := by decide +kernel
theorem dX10_worth_47 : decode cX10_worth 47 = .ok (.iload 4, 2) := by decide +kernel
theorem dX10_worth_49 : decode cX10_worth 49 = .ok (.invokevirtual 232, 3) := by decide +kernel
theorem dX10_worth_52 : decode cX10_worth 52 = .ok (.aload_n 0, 1) := by decide +kernel
theorem dX10_worth_53 : decode cX10_worth 53 = .ok (.getfield 29, 3) := by decide +kernel
theorem dX10_worth_56 : decode cX10_worth 56 = .ok (.aload_n 0, 1) := by decide +kernel
theorem dX10_worth_57 : decode cX10_worth 57 = .ok (.getfield 12, 3) := by decide +kernel
theorem dX10_worth_60 : decode cX10_worth 60 = .ok (.iload_n 2, 1) := by decide +kernel
theorem dX10_worth_61 : decode cX10_worth 61 = .ok (.invokevirtual 256, 3) := by decide +kernel
theorem dX10_worth_64 : decode cX10_worth 64 = .ok (.ifCond .eq 22, 3) := by decide +kernel
theorem dX10_worth_67 : decode cX10_worth 67 = .ok (.aload_n 0, 1) := by decide +kernel
theorem dX10_worth_68 : decode cX10_worth 68 = .ok (.getfield 29, 3) := by decide +kernel
theorem dX10_worth_71 : decode cX10_worth 71 = .ok (.aload_n 0, 1) := by decide +kernel
theorem dX10_worth_72 : decode cX10_worth 72 = .ok (.getfield 12, 3) := by decide +kernel
theorem dX10_worth_75 : decode cX10_worth 75 = .ok (.iload_n 2, 1) := by decide +kernel
theorem dX10_worth_76 : decode cX10_worth 76 = .ok (.invokevirtual 260, 3) := by decide +kernel
theorem dX10_worth_79 : decode cX10_worth 79 = .ok (.ifCond .ne 7, 3) := by decide +kernel
theorem dX10_worth_82 : decode cX10_worth 82 = .ok (.iconst 1, 1) := by decide +kernel
theorem dX10_worth_83 : decode cX10_worth 83 = .ok (.goto 4, 3) := by decide +kernel
theorem dX10_worth_86 : decode cX10_worth 86 = .ok (.iconst 0, 1) := by decide +kernel
theorem dX10_worth_87 : decode cX10_worth 87 = .ok (.istore 5, 2) := by decide +kernel
theorem dX10_worth_89 : decode cX10_worth 89 = .ok (.iload_n 3, 1) := by decide +kernel
theorem dX10_worth_90 : decode cX10_worth 90 = .ok (.iload 5, 2) := by decide +kernel
theorem dX10_worth_92 : decode cX10_worth 92 = .ok (.ifCond .eq 7, 3) := by decide +kernel
theorem dX10_worth_95 : decode cX10_worth 95 = .ok (.iconst 1, 1) := by decide +kernel
theorem dX10_worth_96 : decode cX10_worth 96 = .ok (.goto 4, 3) := by decide +kernel
theorem dX10_worth_99 : decode cX10_worth 99 = .ok (.iconst 0, 1) := by decide +kernel
theorem dX10_worth_100 : decode cX10_worth 100 = .ok (.iadd, 1) := by decide +kernel
theorem dX10_worth_101 : decode cX10_worth 101 = .ok (.istore_n 3, 1) := by decide +kernel
theorem dX10_worth_102 : decode cX10_worth 102 = .ok (.iinc 4 1, 3) := by decide +kernel
theorem dX10_worth_105 : decode cX10_worth 105 = .ok (.goto (-82), 3) := by decide +kernel
theorem dX10_worth_108 : decode cX10_worth 108 = .ok (.iload_n 3, 1) := by decide +kernel
theorem dX10_worth_109 : decode cX10_worth 109 = .ok (.ireturn, 1) := by decide +kernel
theorem dX10_look_0 : decode cX10_look 0 = .ok (.iload_n 1, 1) := by decide +kernel
theorem dX10_look_1 : decode cX10_look 1 = .ok (.iconst 0, 1) := by decide +kernel
theorem dX10_look_2 : decode cX10_look 2 = .ok (.sipush 9999, 3) := by decide +kernel
theorem dX10_look_5 : decode cX10_look 5 = .ok (.invokestatic 54, 3) := by decide +kernel
theorem dX10_look_8 : decode cX10_look 8 = .ok (.ifCond .eq 12, 3) := by decide +kernel
theorem dX10_look_11 : decode cX10_look 11 = .ok (.iload_n 2, 1) := by decide +kernel
theorem dX10_look_12 : decode cX10_look 12 = .ok (.iconst 0, 1) := by decide +kernel
theorem dX10_look_13 : decode cX10_look 13 = .ok (.iconst 1, 1) := by decide +kernel
theorem dX10_look_14 : decode cX10_look 14 = .ok (.invokestatic 54, 3) := by decide +kernel
theorem dX10_look_17 : decode cX10_look 17 = .ok (.ifCond .ne 5, 3) := by decide +kernel
theorem dX10_look_20 : decode cX10_look 20 = .ok (.iconst (-1), 1) := by decide +kernel
theorem dX10_look_21 : decode cX10_look 21 = .ok (.ireturn, 1) := by decide +kernel
theorem dX10_look_22 : decode cX10_look 22 = .ok (.aload_n 0, 1) := by decide +kernel
theorem dX10_look_23 : decode cX10_look 23 = .ok (.getfield 12, 3) := by decide +kernel
theorem dX10_look_26 : decode cX10_look 26 = .ok (.getfield 170, 3) := by decide +kernel
theorem dX10_look_29 : decode cX10_look 29 = .ok (.iload_n 1, 1) := by decide +kernel
theorem dX10_look_30 : decode cX10_look 30 = .ok (.iload_n 2, 1) := by decide +kernel
theorem dX10_look_31 : decode cX10_look 31 = .ok (.invokevirtual 263, 3) := by decide +kernel
theorem dX10_look_34 : decode cX10_look 34 = .ok (.ifCond .eq 16, 3) := by decide +kernel
theorem dX10_look_37 : decode cX10_look 37 = .ok (.aload_n 0, 1) := by decide +kernel
theorem dX10_look_38 : decode cX10_look 38 = .ok (.getfield 12, 3) := by decide +kernel
theorem dX10_look_41 : decode cX10_look 41 = .ok (.getfield 170, 3) := by decide +kernel
theorem dX10_look_44 : decode cX10_look 44 = .ok (.getfield 174, 3) := by decide +kernel
theorem dX10_look_47 : decode cX10_look 47 = .ok (.goto 5, 3) := by decide +kernel
theorem dX10_look_50 : decode cX10_look 50 = .ok (.bipush (-3), 2) := by decide +kernel
theorem dX10_look_52 : decode cX10_look 52 = .ok (.ireturn, 1) := by decide +kernel
theorem dX10_forget_0 : decode cX10_forget 0 = .ok (.aload_n 0, 1) := by decide +kernel
theorem dX10_forget_1 : decode cX10_forget 1 = .ok (.getfield 12, 3) := by decide +kernel
theorem dX10_forget_4 : decode cX10_forget 4 = .ok (.getfield 170, 3) := by decide +kernel
theorem dX10_forget_7 : decode cX10_forget 7 = .ok (.getfield 174, 3) := by decide +kernel
theorem dX10_forget_10 : decode cX10_forget 10 = .ok (.istore_n 1, 1) := by decide +kernel
theorem dX10_forget_11 : decode cX10_forget 11 = .ok (.aload_n 0, 1) := by decide +kernel
theorem dX10_forget_12 : decode cX10_forget 12 = .ok (.getfield 12, 3) := by decide +kernel
theorem dX10_forget_15 : decode cX10_forget 15 = .ok (.getfield 170, 3) := by decide +kernel
theorem dX10_forget_18 : decode cX10_forget 18 = .ok (.iconst 0, 1) := by decide +kernel
theorem dX10_forget_19 : decode cX10_forget 19 = .ok (.putfield 174, 3) := by decide +kernel
theorem dX10_forget_22 : decode cX10_forget 22 = .ok (.iload_n 1, 1) := by decide +kernel
theorem dX10_forget_23 : decode cX10_forget 23 = .ok (.ireturn, 1) := by decide +kernel
theorem dX10_fits_0 : decode cX10_fits 0 = .ok (.iload_n 1, 1) := by decide +kernel
theorem dX10_fits_1 : decode cX10_fits 1 = .ok (.iconst 0, 1) := by decide +kernel
theorem dX10_fits_2 : decode cX10_fits 2 = .ok (.iconst 1, 1) := by decide +kernel
theorem dX10_fits_3 : decode cX10_fits 3 = .ok (.invokestatic 54, 3) := by decide +kernel
theorem dX10_fits_6 : decode cX10_fits 6 = .ok (.ifCond .ne 5, 3) := by decide +kernel
theorem dX10_fits_9 : decode cX10_fits 9 = .ok (.iconst (-1), 1) := by decide +kernel
theorem dX10_fits_10 : decode cX10_fits 10 = .ok (.ireturn, 1) := by decide +kernel
theorem dX10_fits_11 : decode cX10_fits 11 = .ok (.aload_n 0, 1) := by decide +kernel
theorem dX10_fits_12 : decode cX10_fits 12 = .ok (.getfield 43, 3) := by decide +kernel
theorem dX10_fits_15 : decode cX10_fits 15 = .ok (.aload_n 0, 1) := by decide +kernel
theorem dX10_fits_16 : decode cX10_fits 16 = .ok (.getfield 12, 3) := by decide +kernel
theorem dX10_fits_19 : decode cX10_fits 19 = .ok (.getfield 170, 3) := by decide +kernel
theorem dX10_fits_22 : decode cX10_fits 22 = .ok (.iconst 0, 1) := by decide +kernel
theorem dX10_fits_23 : decode cX10_fits 23 = .ok (.iconst 0, 1) := by decide +kernel
theorem dX10_fits_24 : decode cX10_fits 24 = .ok (.invokevirtual 265, 3) := by decide +kernel
theorem dX10_fits_27 : decode cX10_fits 27 = .ok (.iload_n 1, 1) := by decide +kernel
theorem dX10_fits_28 : decode cX10_fits 28 = .ok (.ifCond .ne 13, 3) := by decide +kernel
theorem dX10_fits_31 : decode cX10_fits 31 = .ok (.aload_n 0, 1) := by decide +kernel
theorem dX10_fits_32 : decode cX10_fits 32 = .ok (.getfield 43, 3) := by decide +kernel
theorem dX10_fits_35 : decode cX10_fits 35 = .ok (.getfield 269, 3) := by decide +kernel
theorem dX10_fits_38 : decode cX10_fits 38 = .ok (.goto 10, 3) := by decide +kernel
theorem dX10_fits_41 : decode cX10_fits 41 = .ok (.aload_n 0, 1) := by decide +kernel
theorem dX10_fits_42 : decode cX10_fits 42 = .ok (.getfield 43, 3) := by decide +kernel
theorem dX10_fits_45 : decode cX10_fits 45 = .ok (.getfield 272, 3) := by decide +kernel
theorem dX10_fits_48 : decode cX10_fits 48 = .ok (.ireturn, 1) := by decide +kernel
theorem dX10_foretell_0 : decode cX10_foretell 0 = .ok (.iload_n 1, 1) := by decide +kernel
theorem dX10_foretell_1 : decode cX10_foretell 1 = .ok (.iconst 0, 1) := by decide +kernel
theorem dX10_foretell_2 : decode cX10_foretell 2 = .ok (.sipush 9999, 3) := by decide +kernel
theorem dX10_foretell_5 : decode cX10_foretell 5 = .ok (.invokestatic 54, 3) := by decide +kernel
theorem dX10_foretell_8 : decode cX10_foretell 8 = .ok (.ifCond .ne 5, 3) := by decide +kernel
theorem dX10_foretell_11 : decode cX10_foretell 11 = .ok (.iconst (-1), 1) := by decide +kernel
theorem dX10_foretell_12 : decode cX10_foretell 12 = .ok (.ireturn, 1) := by decide +kernel
theorem dX10_foretell_13 : decode cX10_foretell 13 = .ok (.aload_n 0, 1) := by decide +kernel
theorem dX10_foretell_14 : decode cX10_foretell 14 = .ok (.getfield 43, 3) := by decide +kernel
theorem dX10_foretell_17 : decode cX10_foretell 17 = .ok (.aload_n 0, 1) := by decide +kernel
theorem dX10_foretell_18 : decode cX10_foretell 18 = .ok (.getfield 12, 3) := by decide +kernel
theorem dX10_foretell_21 : decode cX10_foretell 21 = .ok (.getfield 170, 3) := by decide +kernel
theorem dX10_foretell_24 : decode cX10_foretell 24 = .ok (.iload_n 1, 1) := by decide +kernel
theorem dX10_foretell_25 : decode cX10_foretell 25 = .ok (.iconst 1, 1) := by decide +kernel
theorem dX10_foretell_26 : decode cX10_foretell 26 = .ok (.invokevirtual 265, 3) := by decide +kernel
theorem dX10_foretell_29 : decode cX10_foretell 29 = .ok (.aload_n 0, 1) := by decide +kernel
theorem dX10_foretell_30 : decode cX10_foretell 30 = .ok (.getfield 43, 3) := by decide +kernel
theorem dX10_foretell_33 : decode cX10_foretell 33 = .ok (.getfield 269, 3) := by decide +kernel
theorem dX10_foretell_36 : decode cX10_foretell 36 = .ok (.ifCond .ne 6, 3) := by decide +kernel
theorem dX10_foretell_39 : decode cX10_foretell 39 = .ok (.bipush (-4), 2) := by decide +kernel
theorem dX10_foretell_41 : decode cX10_foretell 41 = .ok (.ireturn, 1) := by decide +kernel
theorem dX10_foretell_42 : decode cX10_foretell 42 = .ok (.aload_n 0, 1) := by decide +kernel
theorem dX10_foretell_43 : decode cX10_foretell 43 = .ok (.getfield 43, 3) := by decide +kernel
theorem dX10_foretell_46 : decode cX10_foretell 46 = .ok (.getfield 275, 3) := by decide +kernel
theorem dX10_foretell_49 : decode cX10_foretell 49 = .ok (.iconst 0, 1) := by decide +kernel
theorem dX10_foretell_50 : decode cX10_foretell 50 = .ok (.iaload, 1) := by decide +kernel
theorem dX10_foretell_51 : decode cX10_foretell 51 = .ok (.istore_n 2, 1) := by decide +kernel
theorem dX10_foretell_52 : decode cX10_foretell 52 = .ok (.iload_n 2, 1) := by decide +kernel
theorem dX10_foretell_53 : decode cX10_foretell 53 = .ok (.aload_n 0, 1) := by decide +kernel
theorem dX10_foretell_54 : decode cX10_foretell 54 = .ok (.getfield 43, 3) := by decide +kernel
theorem dX10_foretell_57 : decode cX10_foretell 57 = .ok (.getfield 269, 3) := by decide +kernel
theorem dX10_foretell_60 : decode cX10_foretell 60 = .ok (.if_icmp .ne 5, 3) := by decide +kernel
theorem dX10_foretell_63 : decode cX10_foretell 63 = .ok (.iconst 1, 1) := by decide +kernel
theorem dX10_foretell_64 : decode cX10_foretell 64 = .ok (.ireturn, 1) := by decide +kernel
theorem dX10_foretell_65 : decode cX10_foretell 65 = .ok (.iload_n 2, 1) := by decide +kernel
theorem dX10_foretell_66 : decode cX10_foretell 66 = .ok (.ifCond .ne 7, 3) := by decide +kernel
theorem dX10_foretell_69 : decode cX10_foretell 69 = .ok (.iconst 0, 1) := by decide +kernel
theorem dX10_foretell_70 : decode cX10_foretell 70 = .ok (.goto 4, 3) := by decide +kernel
theorem dX10_foretell_73 : decode cX10_foretell 73 = .ok (.iconst 2, 1) := by decide +kernel
theorem dX10_foretell_74 : decode cX10_foretell 74 = .ok (.ireturn, 1) := by decide +kernel
theorem dX10_next_0 : decode cX10_next 0 = .ok (.iload_n 1, 1) := by decide +kernel
theorem dX10_next_1 : decode cX10_next 1 = .ok (.iconst 0, 1) := by decide +kernel
theorem dX10_next_2 : decode cX10_next 2 = .ok (.sipush 9999, 3) := by decide +kernel
theorem dX10_next_5 : decode cX10_next 5 = .ok (.invokestatic 54, 3) := by decide +kernel
theorem dX10_next_8 : decode cX10_next 8 = .ok (.ifCond .eq 12, 3) := by decide +kernel
theorem dX10_next_11 : decode cX10_next 11 = .ok (.iload_n 2, 1) := by decide +kernel
theorem dX10_next_12 : decode cX10_next 12 = .ok (.iconst 0, 1) := by decide +kernel
theorem dX10_next_13 : decode cX10_next 13 = .ok (.iconst 1, 1) := by decide +kernel
theorem dX10_next_14 : decode cX10_next 14 = .ok (.invokestatic 54, 3) := by decide +kernel
theorem dX10_next_17 : decode cX10_next 17 = .ok (.ifCond .ne 5, 3) := by decide +kernel
theorem dX10_next_20 : decode cX10_next 20 = .ok (.iconst (-1), 1) := by decide +kernel
theorem dX10_next_21 : decode cX10_next 21 = .ok (.ireturn, 1) := by decide +kernel
theorem dX10_next_22 : decode cX10_next 22 = .ok (.aload_n 0, 1) := by decide +kernel
theorem dX10_next_23 : decode cX10_next 23 = .ok (.getfield 43, 3) := by decide +kernel
theorem dX10_next_26 : decode cX10_next 26 = .ok (.aload_n 0, 1) := by decide +kernel
theorem dX10_next_27 : decode cX10_next 27 = .ok (.getfield 12, 3) := by decide +kernel
theorem dX10_next_30 : decode cX10_next 30 = .ok (.getfield 170, 3) := by decide +kernel
theorem dX10_next_33 : decode cX10_next 33 = .ok (.iload_n 1, 1) := by decide +kernel
theorem dX10_next_34 : decode cX10_next 34 = .ok (.bipush 60, 2) := by decide +kernel
theorem dX10_next_36 : decode cX10_next 36 = .ok (.invokevirtual 265, 3) := by decide +kernel
theorem dX10_next_39 : decode cX10_next 39 = .ok (.aload_n 0, 1) := by decide +kernel
theorem dX10_next_40 : decode cX10_next 40 = .ok (.getfield 43, 3) := by decide +kernel
theorem dX10_next_43 : decode cX10_next 43 = .ok (.getfield 269, 3) := by decide +kernel
theorem dX10_next_46 : decode cX10_next 46 = .ok (.ifCond .ne 6, 3) := by decide +kernel
theorem dX10_next_49 : decode cX10_next 49 = .ok (.bipush (-4), 2) := by decide +kernel
theorem dX10_next_51 : decode cX10_next 51 = .ok (.ireturn, 1) := by decide +kernel
theorem dX10_next_52 : decode cX10_next 52 = .ok (.iconst 0, 1) := by decide +kernel
theorem dX10_next_53 : decode cX10_next 53 = .ok (.istore_n 3, 1) := by decide +kernel
theorem dX10_next_54 : decode cX10_next 54 = .ok (.iconst 1, 1) := by decide +kernel
theorem dX10_next_55 : decode cX10_next 55 = .ok (.istore 4, 2) := by decide +kernel
theorem dX10_next_57 : decode cX10_next 57 = .ok (.iload 4, 2) := by decide +kernel
theorem dX10_next_59 : decode cX10_next 59 = .ok (.bipush 60, 2) := by decide +kernel
theorem dX10_next_61 : decode cX10_next 61 = .ok (.if_icmp .ge 32, 3) := by decide +kernel
theorem dX10_next_64 : decode cX10_next 64 = .ok (.aload_n 0, 1) := by decide +kernel
theorem dX10_next_65 : decode cX10_next 65 = .ok (.getfield 43, 3) := by decide +kernel
theorem dX10_next_68 : decode cX10_next 68 = .ok (.iload 4, 2) := by decide +kernel
theorem dX10_next_70 : decode cX10_next 70 = .ok (.invokevirtual 278, 3) := by decide +kernel
theorem dX10_next_73 : decode cX10_next 73 = .ok (.aload_n 0, 1) := by decide +kernel
theorem dX10_next_74 : decode cX10_next 74 = .ok (.getfield 43, 3) := by decide +kernel
theorem dX10_next_77 : decode cX10_next 77 = .ok (.iload_n 3, 1) := by decide +kernel
theorem dX10_next_78 : decode cX10_next 78 = .ok (.invokevirtual 278, 3) := by decide +kernel
theorem dX10_next_81 : decode cX10_next 81 = .ok (.if_icmp .ge 6, 3) := by decide +kernel
theorem dX10_next_84 : decode cX10_next 84 = .ok (.iload 4, 2) := by decide +kernel
theorem dX10_next_86 : decode cX10_next 86 = .ok (.istore_n 3, 1) := by decide +kernel
theorem dX10_next_87 : decode cX10_next 87 = .ok (.iinc 4 1, 3) := by decide +kernel
theorem dX10_next_90 : decode cX10_next 90 = .ok (.goto (-33), 3) := by decide +kernel
theorem dX10_next_93 : decode cX10_next 93 = .ok (.iload_n 2, 1) := by decide +kernel
theorem dX10_next_94 : decode cX10_next 94 = .ok (.ifCond .ne 9, 3) := by decide +kernel
theorem dX10_next_97 : decode cX10_next 97 = .ok (.iload_n 1, 1) := by decide +kernel
theorem dX10_next_98 : decode cX10_next 98 = .ok (.iload_n 3, 1) := by decide +kernel
theorem dX10_next_99 : decode cX10_next 99 = .ok (.iadd, 1) := by decide +kernel
theorem dX10_next_100 : decode cX10_next 100 = .ok (.goto 11, 3) := by decide +kernel
theorem dX10_next_103 : decode cX10_next 103 = .ok (.aload_n 0, 1) := by decide +kernel
theorem dX10_next_104 : decode cX10_next 104 = .ok (.getfield 43, 3) := by decide +kernel
theorem dX10_next_107 : decode cX10_next 107 = .ok (.iload_n 3, 1) := by decide +kernel
theorem dX10_next_108 : decode cX10_next 108 = .ok (.invokevirtual 278, 3) := by decide +kernel
theorem dX10_next_111 : decode cX10_next 111 = .ok (.ireturn, 1) := by decide +kernel
theorem dX10_image_0 : decode cX10_image 0 = .ok (.aload_n 0, 1) := by decide +kernel
theorem dX10_image_1 : decode cX10_image 1 = .ok (.getfield 16, 3) := by decide +kernel
theorem dX10_image_4 : decode cX10_image 4 = .ok (.aload_n 0, 1) := by decide +kernel
theorem dX10_image_5 : decode cX10_image 5 = .ok (.getfield 12, 3) := by decide +kernel
theorem dX10_image_8 : decode cX10_image 8 = .ok (.invokevirtual 281, 3) := by decide +kernel
theorem dX10_image_11 : decode cX10_image 11 = .ok (.aload_n 0, 1) := by decide +kernel
theorem dX10_image_12 : decode cX10_image 12 = .ok (.iconst 1, 1) := by decide +kernel
theorem dX10_image_13 : decode cX10_image 13 = .ok (.putfield 285, 3) := by decide +kernel
theorem dX10_image_16 : decode cX10_image 16 = .ok (.iconst 1, 1) := by decide +kernel
theorem dX10_image_17 : decode cX10_image 17 = .ok (.ireturn, 1) := by decide +kernel
theorem dX10_restore_0 : decode cX10_restore 0 = .ok (.aload_n 0, 1) := by decide +kernel
theorem dX10_restore_1 : decode cX10_restore 1 = .ok (.getfield 285, 3) := by decide +kernel
theorem dX10_restore_4 : decode cX10_restore 4 = .ok (.ifCond .ne 6, 3) := by decide +kernel
theorem dX10_restore_7 : decode cX10_restore 7 = .ok (.bipush (-4), 2) := by decide +kernel
theorem dX10_restore_9 : decode cX10_restore 9 = .ok (.ireturn, 1) := by decide +kernel
theorem dX10_restore_10 : decode cX10_restore 10 = .ok (.aload_n 0, 1) := by decide +kernel
theorem dX10_restore_11 : decode cX10_restore 11 = .ok (.getfield 12, 3) := by decide +kernel
theorem dX10_restore_14 : decode cX10_restore 14 = .ok (.aload_n 0, 1) := by decide +kernel
theorem dX10_restore_15 : decode cX10_restore 15 = .ok (.getfield 16, 3) := by decide +kernel
theorem dX10_restore_18 : decode cX10_restore 18 = .ok (.invokevirtual 281, 3) := by decide +kernel
theorem dX10_restore_21 : decode cX10_restore 21 = .ok (.iconst 1, 1) := by decide +kernel
theorem dX10_restore_22 : decode cX10_restore 22 = .ok (.ireturn, 1) := by decide +kernel
theorem dX10_judged_0 : decode cX10_judged 0 = .ok (.aload_n 0, 1) := by decide +kernel
theorem dX10_judged_1 : decode cX10_judged 1 = .ok (.iload_n 1, 1) := by decide +kernel
theorem dX10_judged_2 : decode cX10_judged 2 = .ok (.iload_n 2, 1) := by decide +kernel
theorem dX10_judged_3 : decode cX10_judged 3 = .ok (.invokevirtual 210, 3) := by decide +kernel
theorem dX10_judged_6 : decode cX10_judged 6 = .ok (.ifCond .eq 23, 3) := by decide +kernel
theorem dX10_judged_9 : decode cX10_judged 9 = .ok (.aload_n 0, 1) := by decide +kernel
theorem dX10_judged_10 : decode cX10_judged 10 = .ok (.iload_n 3, 1) := by decide +kernel
theorem dX10_judged_11 : decode cX10_judged 11 = .ok (.iload 4, 2) := by decide +kernel
theorem dX10_judged_13 : decode cX10_judged 13 = .ok (.invokevirtual 289, 3) := by decide +kernel
theorem dX10_judged_16 : decode cX10_judged 16 = .ok (.ifCond .eq 13, 3) := by decide +kernel
theorem dX10_judged_19 : decode cX10_judged 19 = .ok (.iload 6, 2) := by decide +kernel
theorem dX10_judged_21 : decode cX10_judged 21 = .ok (.iconst 0, 1) := by decide +kernel
theorem dX10_judged_22 : decode cX10_judged 22 = .ok (.iconst 2, 1) := by decide +kernel
theorem dX10_judged_23 : decode cX10_judged 23 = .ok (.invokestatic 54, 3) := by decide +kernel
theorem dX10_judged_26 : decode cX10_judged 26 = .ok (.ifCond .ne 5, 3) := by decide +kernel
theorem dX10_judged_29 : decode cX10_judged 29 = .ok (.iconst (-1), 1) := by decide +kernel
theorem dX10_judged_30 : decode cX10_judged 30 = .ok (.ireturn, 1) := by decide +kernel
theorem dX10_judged_31 : decode cX10_judged 31 = .ok (.aload_n 0, 1) := by decide +kernel
theorem dX10_judged_32 : decode cX10_judged 32 = .ok (.getfield 49, 3) := by decide +kernel
theorem dX10_judged_35 : decode cX10_judged 35 = .ok (.iload_n 3, 1) := by decide +kernel
theorem dX10_judged_36 : decode cX10_judged 36 = .ok (.aaload, 1) := by decide +kernel
theorem dX10_judged_37 : decode cX10_judged 37 = .ok (.astore 7, 2) := by decide +kernel
theorem dX10_judged_39 : decode cX10_judged 39 = .ok (.aload 7, 2) := by decide +kernel
theorem dX10_judged_41 : decode cX10_judged 41 = .ok (.iload 4, 2) := by decide +kernel
theorem dX10_judged_43 : decode cX10_judged 43 = .ok (.iload 5, 2) := by decide +kernel
theorem dX10_judged_45 : decode cX10_judged 45 = .ok (.aload_n 0, 1) := by decide +kernel
theorem dX10_judged_46 : decode cX10_judged 46 = .ok (.getfield 12, 3) := by decide +kernel
theorem dX10_judged_49 : decode cX10_judged 49 = .ok (.getfield 58, 3) := by decide +kernel
theorem dX10_judged_52 : decode cX10_judged 52 = .ok (.invokevirtual 292, 3) := by decide +kernel
theorem dX10_judged_55 : decode cX10_judged 55 = .ok (.istore 8, 2) := by decide +kernel
theorem dX10_judged_57 : decode cX10_judged 57 = .ok (.iload 8, 2) := by decide +kernel
theorem dX10_judged_59 : decode cX10_judged 59 = .ok (.ifCond .eq 6, 3) := by decide +kernel
theorem dX10_judged_62 : decode cX10_judged 62 = .ok (.iload 8, 2) := by decide +kernel
theorem dX10_judged_64 : decode cX10_judged 64 = .ok (.ireturn, 1) := by decide +kernel
theorem dX10_judged_65 : decode cX10_judged 65 = .ok (.aload_n 0, 1) := by decide +kernel
theorem dX10_judged_66 : decode cX10_judged 66 = .ok (.getfield 12, 3) := by decide +kernel
theorem dX10_judged_69 : decode cX10_judged 69 = .ok (.getfield 85, 3) := by decide +kernel
theorem dX10_judged_72 : decode cX10_judged 72 = .ok (.iload_n 1, 1) := by decide +kernel
theorem dX10_judged_73 : decode cX10_judged 73 = .ok (.aaload, 1) := by decide +kernel
theorem dX10_judged_74 : decode cX10_judged 74 = .ok (.astore 9, 2) := by decide +kernel
theorem dX10_judged_76 : decode cX10_judged 76 = .ok (.iconst 0, 1) := by decide +kernel
theorem dX10_judged_77 : decode cX10_judged 77 = .ok (.istore 10, 2) := by decide +kernel
theorem dX10_judged_79 : decode cX10_judged 79 = .ok (.iload 10, 2) := by decide +kernel
theorem dX10_judged_81 : decode cX10_judged 81 = .ok (.aload_n 0, 1) := by decide +kernel
theorem dX10_judged_82 : decode cX10_judged 82 = .ok (.getfield 12, 3) := by decide +kernel
theorem dX10_judged_85 : decode cX10_judged 85 = .ok (.getfield 58, 3) := by decide +kernel
theorem dX10_judged_88 : decode cX10_judged 88 = .ok (.if_icmp .ge 62, 3) := by decide +kernel
theorem dX10_judged_91 : decode cX10_judged 91 = .ok (.aload 7, 2) := by decide +kernel
theorem dX10_judged_93 : decode cX10_judged 93 = .ok (.getfield 295, 3) := by decide +kernel
theorem dX10_judged_96 : decode cX10_judged 96 = .ok (.iload 5, 2) := by decide +kernel
theorem dX10_judged_98 : decode cX10_judged 98 = .ok (.iload 10, 2) := by decide +kernel
theorem dX10_judged_100 : decode cX10_judged 100 = .ok (.iadd, 1) := by decide +kernel
theorem dX10_judged_101 : decode cX10_judged 101 = .ok (.laload, 1) := by decide +kernel
theorem dX10_judged_102 : decode cX10_judged 102 = .ok (.lstore 11, 2) := by decide +kernel
theorem dX10_judged_104 : decode cX10_judged 104 = .ok (.lload 11, 2) := by decide +kernel
theorem dX10_judged_106 : decode cX10_judged 106 = .ok (.aload 9, 2) := by decide +kernel
theorem dX10_judged_108 : decode cX10_judged 108 = .ok (.invokevirtual 113, 3) := by decide +kernel
theorem dX10_judged_111 : decode cX10_judged 111 = .ok (.i2l, 1) := by decide +kernel
theorem dX10_judged_112 : decode cX10_judged 112 = .ok (.lcmp, 1) := by decide +kernel
theorem dX10_judged_113 : decode cX10_judged 113 = .ok (.ifCond .lt 15, 3) := by decide +kernel
theorem dX10_judged_116 : decode cX10_judged 116 = .ok (.lload 11, 2) := by decide +kernel
theorem dX10_judged_118 : decode cX10_judged 118 = .ok (.aload 9, 2) := by decide +kernel
theorem dX10_judged_120 : decode cX10_judged 120 = .ok (.invokevirtual 117, 3) := by decide +kernel
theorem dX10_judged_123 : decode cX10_judged 123 = .ok (.i2l, 1) := by decide +kernel
theorem dX10_judged_124 : decode cX10_judged 124 = .ok (.lcmp, 1) := by decide +kernel
theorem dX10_judged_125 : decode cX10_judged 125 = .ok (.ifCond .le 6, 3) := by decide +kernel
theorem dX10_judged_128 : decode cX10_judged 128 = .ok (.bipush (-2), 2) := by decide +kernel
theorem dX10_judged_130 : decode cX10_judged 130 = .ok (.ireturn, 1) := by decide +kernel
theorem dX10_judged_131 : decode cX10_judged 131 = .ok (.aload_n 0, 1) := by decide +kernel
theorem dX10_judged_132 : decode cX10_judged 132 = .ok (.getfield 29, 3) := by decide +kernel
theorem dX10_judged_135 : decode cX10_judged 135 = .ok (.getfield 299, 3) := by decide +kernel
theorem dX10_judged_138 : decode cX10_judged 138 = .ok (.iload 10, 2) := by decide +kernel
theorem dX10_judged_140 : decode cX10_judged 140 = .ok (.lload 11, 2) := by decide +kernel
theorem dX10_judged_142 : decode cX10_judged 142 = .ok (.l2i, 1) := by decide +kernel
theorem dX10_judged_143 : decode cX10_judged 143 = .ok (.iastore, 1) := by decide +kernel
theorem dX10_judged_144 : decode cX10_judged 144 = .ok (.iinc 10 1, 3) := by decide +kernel
theorem dX10_judged_147 : decode cX10_judged 147 = .ok (.goto (-68), 3) := by decide +kernel
theorem dX10_judged_150 : decode cX10_judged 150 = .ok (.aload_n 0, 1) := by decide +kernel
theorem dX10_judged_151 : decode cX10_judged 151 = .ok (.getfield 29, 3) := by decide +kernel
theorem dX10_judged_154 : decode cX10_judged 154 = .ok (.aload_n 0, 1) := by decide +kernel
theorem dX10_judged_155 : decode cX10_judged 155 = .ok (.getfield 12, 3) := by decide +kernel
theorem dX10_judged_158 : decode cX10_judged 158 = .ok (.aload 9, 2) := by decide +kernel
theorem dX10_judged_160 : decode cX10_judged 160 = .ok (.iload_n 2, 1) := by decide +kernel
theorem dX10_judged_161 : decode cX10_judged 161 = .ok (.invokevirtual 300, 3) := by decide +kernel
theorem dX10_judged_164 : decode cX10_judged 164 = .ok (.aload_n 0, 1) := by decide +kernel
theorem dX10_judged_165 : decode cX10_judged 165 = .ok (.getfield 29, 3) := by decide +kernel
theorem dX10_judged_168 : decode cX10_judged 168 = .ok (.iload 6, 2) := by decide +kernel
theorem dX10_judged_170 : decode cX10_judged 170 = .ok (.invokevirtual 228, 3) := by decide +kernel
theorem dX10_judged_173 : decode cX10_judged 173 = .ok (.ireturn, 1) := by decide +kernel
theorem dX10_film_0 : decode cX10_film 0 = .ok (.iload_n 1, 1) := by decide +kernel
theorem dX10_film_1 : decode cX10_film 1 = .ok (.iconst 0, 1) := by decide +kernel
theorem dX10_film_2 : decode cX10_film 2 = .ok (.ldc 123, 2) := by decide +kernel
theorem dX10_film_4 : decode cX10_film 4 = .ok (.invokestatic 54, 3) := by decide +kernel
theorem dX10_film_7 : decode cX10_film 7 = .ok (.ifCond .eq 12, 3) := by decide +kernel
theorem dX10_film_10 : decode cX10_film 10 = .ok (.aload_n 0, 1) := by decide +kernel
theorem dX10_film_11 : decode cX10_film 11 = .ok (.iload_n 2, 1) := by decide +kernel
theorem dX10_film_12 : decode cX10_film 12 = .ok (.iload_n 3, 1) := by decide +kernel
theorem dX10_film_13 : decode cX10_film 13 = .ok (.invokevirtual 289, 3) := by decide +kernel
theorem dX10_film_16 : decode cX10_film 16 = .ok (.ifCond .ne 5, 3) := by decide +kernel
theorem dX10_film_19 : decode cX10_film 19 = .ok (.iconst (-1), 1) := by decide +kernel
theorem dX10_film_20 : decode cX10_film 20 = .ok (.ireturn, 1) := by decide +kernel
theorem dX10_film_21 : decode cX10_film 21 = .ok (.aload_n 0, 1) := by decide +kernel
theorem dX10_film_22 : decode cX10_film 22 = .ok (.getfield 49, 3) := by decide +kernel
theorem dX10_film_25 : decode cX10_film 25 = .ok (.iload_n 2, 1) := by decide +kernel
theorem dX10_film_26 : decode cX10_film 26 = .ok (.aaload, 1) := by decide +kernel
theorem dX10_film_27 : decode cX10_film 27 = .ok (.astore 5, 2) := by decide +kernel
theorem dX10_film_29 : decode cX10_film 29 = .ok (.aload 5, 2) := by decide +kernel
theorem dX10_film_31 : decode cX10_film 31 = .ok (.iload_n 3, 1) := by decide +kernel
theorem dX10_film_32 : decode cX10_film 32 = .ok (.iload 4, 2) := by decide +kernel
theorem dX10_film_34 : decode cX10_film 34 = .ok (.aload_n 0, 1) := by decide +kernel
theorem dX10_film_35 : decode cX10_film 35 = .ok (.getfield 12, 3) := by decide +kernel
theorem dX10_film_38 : decode cX10_film 38 = .ok (.getfield 58, 3) := by decide +kernel
theorem dX10_film_41 : decode cX10_film 41 = .ok (.invokevirtual 292, 3) := by decide +kernel
theorem dX10_film_44 : decode cX10_film 44 = .ok (.istore 6, 2) := by decide +kernel
theorem dX10_film_46 : decode cX10_film 46 = .ok (.iload 6, 2) := by decide +kernel
theorem dX10_film_48 : decode cX10_film 48 = .ok (.ifCond .eq 6, 3) := by decide +kernel
theorem dX10_film_51 : decode cX10_film 51 = .ok (.iload 6, 2) := by decide +kernel
theorem dX10_film_53 : decode cX10_film 53 = .ok (.ireturn, 1) := by decide +kernel
theorem dX10_film_54 : decode cX10_film 54 = .ok (.iconst 0, 1) := by decide +kernel
theorem dX10_film_55 : decode cX10_film 55 = .ok (.istore 7, 2) := by decide +kernel
theorem dX10_film_57 : decode cX10_film 57 = .ok (.iload 7, 2) := by decide +kernel
theorem dX10_film_59 : decode cX10_film 59 = .ok (.aload_n 0, 1) := by decide +kernel
theorem dX10_film_60 : decode cX10_film 60 = .ok (.getfield 12, 3) := by decide +kernel
theorem dX10_film_63 : decode cX10_film 63 = .ok (.getfield 58, 3) := by decide +kernel
theorem dX10_film_66 : decode cX10_film 66 = .ok (.if_icmp .ge 38, 3) := by decide +kernel
theorem dX10_film_69 : decode cX10_film 69 = .ok (.aload 5, 2) := by decide +kernel
theorem dX10_film_71 : decode cX10_film 71 = .ok (.getfield 295, 3) := by decide +kernel
theorem dX10_film_74 : decode cX10_film 74 = .ok (.iload 4, 2) := by decide +kernel
theorem dX10_film_76 : decode cX10_film 76 = .ok (.iload 7, 2) := by decide +kernel
theorem dX10_film_78 : decode cX10_film 78 = .ok (.iadd, 1) := by decide +kernel
theorem dX10_film_79 : decode cX10_film 79 = .ok (.aload_n 0, 1) := by decide +kernel
theorem dX10_film_80 : decode cX10_film 80 = .ok (.getfield 12, 3) := by decide +kernel
theorem dX10_film_83 : decode cX10_film 83 = .ok (.getfield 62, 3) := by decide +kernel
theorem dX10_film_86 : decode cX10_film 86 = .ok (.iload 7, 2) := by decide +kernel
theorem dX10_film_88 : decode cX10_film 88 = .ok (.aaload, 1) := by decide +kernel
theorem dX10_film_89 : decode cX10_film 89 = .ok (.iload_n 1, 1) := by decide +kernel
theorem dX10_film_90 : decode cX10_film 90 = .ok (.invokevirtual 124, 3) := by decide +kernel
theorem dX10_film_93 : decode cX10_film 93 = .ok (.invokestatic 127, 3) := by decide +kernel
theorem dX10_film_96 : decode cX10_film 96 = .ok (.i2l, 1) := by decide +kernel
theorem dX10_film_97 : decode cX10_film 97 = .ok (.lastore, 1) := by decide +kernel
theorem dX10_film_98 : decode cX10_film 98 = .ok (.iinc 7 1, 3) := by decide +kernel
theorem dX10_film_101 : decode cX10_film 101 = .ok (.goto (-44), 3) := by decide +kernel
theorem dX10_film_104 : decode cX10_film 104 = .ok (.aload_n 0, 1) := by decide +kernel
theorem dX10_film_105 : decode cX10_film 105 = .ok (.getfield 12, 3) := by decide +kernel
theorem dX10_film_108 : decode cX10_film 108 = .ok (.getfield 58, 3) := by decide +kernel
theorem dX10_film_111 : decode cX10_film 111 = .ok (.ireturn, 1) := by decide +kernel
theorem dX10_sheet_0 : decode cX10_sheet 0 = .ok (.aload_n 0, 1) := by decide +kernel
theorem dX10_sheet_1 : decode cX10_sheet 1 = .ok (.iload_n 1, 1) := by decide +kernel
theorem dX10_sheet_2 : decode cX10_sheet 2 = .ok (.iload_n 2, 1) := by decide +kernel
theorem dX10_sheet_3 : decode cX10_sheet 3 = .ok (.invokevirtual 289, 3) := by decide +kernel
theorem dX10_sheet_6 : decode cX10_sheet 6 = .ok (.ifCond .eq 9, 3) := by decide +kernel
theorem dX10_sheet_9 : decode cX10_sheet 9 = .ok (.iload_n 3, 1) := by decide +kernel
theorem dX10_sheet_10 : decode cX10_sheet 10 = .ok (.bipush 16, 2) := by decide +kernel
theorem dX10_sheet_12 : decode cX10_sheet 12 = .ok (.if_icmp .le 5, 3) := by decide +kernel
theorem dX10_sheet_15 : decode cX10_sheet 15 = .ok (.iconst (-1), 1) := by decide +kernel
theorem dX10_sheet_16 : decode cX10_sheet 16 = .ok (.ireturn, 1) := by decide +kernel
theorem dX10_sheet_17 : decode cX10_sheet 17 = .ok (.iload_n 3, 1) := by decide +kernel
theorem dX10_sheet_18 : decode cX10_sheet 18 = .ok (.ifCond .ge 6, 3) := by decide +kernel
theorem dX10_sheet_21 : decode cX10_sheet 21 = .ok (.bipush (-14), 2) := by decide +kernel
theorem dX10_sheet_23 : decode cX10_sheet 23 = .ok (.ireturn, 1) := by decide +kernel
theorem dX10_sheet_24 : decode cX10_sheet 24 = .ok (.aload_n 0, 1) := by decide +kernel
theorem dX10_sheet_25 : decode cX10_sheet 25 = .ok (.getfield 49, 3) := by decide +kernel
theorem dX10_sheet_28 : decode cX10_sheet 28 = .ok (.iload_n 1, 1) := by decide +kernel
theorem dX10_sheet_29 : decode cX10_sheet 29 = .ok (.aaload, 1) := by decide +kernel
theorem dX10_sheet_30 : decode cX10_sheet 30 = .ok (.iload_n 2, 1) := by decide +kernel
theorem dX10_sheet_31 : decode cX10_sheet 31 = .ok (.iload_n 3, 1) := by decide +kernel
theorem dX10_sheet_32 : decode cX10_sheet 32 = .ok (.invokevirtual 303, 3) := by decide +kernel
theorem dX10_sheet_35 : decode cX10_sheet 35 = .ok (.iload_n 3, 1) := by decide +kernel
theorem dX10_sheet_36 : decode cX10_sheet 36 = .ok (.ireturn, 1) := by decide +kernel
theorem dX10_drop_0 : decode cX10_drop 0 = .ok (.iload_n 1, 1) := by decide +kernel
theorem dX10_drop_1 : decode cX10_drop 1 = .ok (.iconst 0, 1) := by decide +kernel
theorem dX10_drop_2 : decode cX10_drop 2 = .ok (.iconst 3, 1) := by decide +kernel
theorem dX10_drop_3 : decode cX10_drop 3 = .ok (.invokestatic 54, 3) := by decide +kernel
theorem dX10_drop_6 : decode cX10_drop 6 = .ok (.ifCond .ne 5, 3) := by decide +kernel
theorem dX10_drop_9 : decode cX10_drop 9 = .ok (.iconst (-1), 1) := by decide +kernel
theorem dX10_drop_10 : decode cX10_drop 10 = .ok (.ireturn, 1) := by decide +kernel
theorem dX10_drop_11 : decode cX10_drop 11 = .ok (.aload_n 0, 1) := by decide +kernel
theorem dX10_drop_12 : decode cX10_drop 12 = .ok (.getfield 49, 3) := by decide +kernel
theorem dX10_drop_15 : decode cX10_drop 15 = .ok (.iload_n 1, 1) := by decide +kernel
theorem dX10_drop_16 : decode cX10_drop 16 = .ok (.aaload, 1) := by decide +kernel
theorem dX10_drop_17 : decode cX10_drop 17 = .ok (.getfield 305, 3) := by decide +kernel
theorem dX10_drop_20 : decode cX10_drop 20 = .ok (.ifCond .ne 6, 3) := by decide +kernel
theorem dX10_drop_23 : decode cX10_drop 23 = .ok (.bipush (-11), 2) := by decide +kernel
theorem dX10_drop_25 : decode cX10_drop 25 = .ok (.ireturn, 1) := by decide +kernel
theorem dX10_drop_26 : decode cX10_drop 26 = .ok (.aload_n 0, 1) := by decide +kernel
theorem dX10_drop_27 : decode cX10_drop 27 = .ok (.getfield 49, 3) := by decide +kernel
theorem dX10_drop_30 : decode cX10_drop 30 = .ok (.iload_n 1, 1) := by decide +kernel
theorem dX10_drop_31 : decode cX10_drop 31 = .ok (.aaload, 1) := by decide +kernel
theorem dX10_drop_32 : decode cX10_drop 32 = .ok (.iconst 0, 1) := by decide +kernel
theorem dX10_drop_33 : decode cX10_drop 33 = .ok (.putfield 305, 3) := by decide +kernel
theorem dX10_drop_36 : decode cX10_drop 36 = .ok (.aload_n 0, 1) := by decide +kernel
theorem dX10_drop_37 : decode cX10_drop 37 = .ok (.getfield 49, 3) := by decide +kernel
theorem dX10_drop_40 : decode cX10_drop 40 = .ok (.iload_n 1, 1) := by decide +kernel
theorem dX10_drop_41 : decode cX10_drop 41 = .ok (.aaload, 1) := by decide +kernel
theorem dX10_drop_42 : decode cX10_drop 42 = .ok (.getfield 308, 3) := by decide +kernel
theorem dX10_drop_45 : decode cX10_drop 45 = .ok (.ireturn, 1) := by decide +kernel
theorem dX10_item_0 : decode cX10_item 0 = .ok (.aload_n 0, 1) := by decide +kernel
theorem dX10_item_1 : decode cX10_item 1 = .ok (.iload_n 1, 1) := by decide +kernel
theorem dX10_item_2 : decode cX10_item 2 = .ok (.iload_n 2, 1) := by decide +kernel
theorem dX10_item_3 : decode cX10_item 3 = .ok (.invokevirtual 289, 3) := by decide +kernel
theorem dX10_item_6 : decode cX10_item 6 = .ok (.ifCond .ne 5, 3) := by decide +kernel
theorem dX10_item_9 : decode cX10_item 9 = .ok (.iconst (-1), 1) := by decide +kernel
theorem dX10_item_10 : decode cX10_item 10 = .ok (.ireturn, 1) := by decide +kernel
theorem dX10_item_11 : decode cX10_item 11 = .ok (.aload_n 0, 1) := by decide +kernel
theorem dX10_item_12 : decode cX10_item 12 = .ok (.getfield 49, 3) := by decide +kernel
theorem dX10_item_15 : decode cX10_item 15 = .ok (.iload_n 1, 1) := by decide +kernel
theorem dX10_item_16 : decode cX10_item 16 = .ok (.aaload, 1) := by decide +kernel
theorem dX10_item_17 : decode cX10_item 17 = .ok (.iload_n 2, 1) := by decide +kernel
theorem dX10_item_18 : decode cX10_item 18 = .ok (.iload_n 3, 1) := by decide +kernel
theorem dX10_item_19 : decode cX10_item 19 = .ok (.iconst 1, 1) := by decide +kernel
theorem dX10_item_20 : decode cX10_item 20 = .ok (.invokevirtual 292, 3) := by decide +kernel
theorem dX10_item_23 : decode cX10_item 23 = .ok (.istore 6, 2) := by decide +kernel
theorem dX10_item_25 : decode cX10_item 25 = .ok (.iload 6, 2) := by decide +kernel
theorem dX10_item_27 : decode cX10_item 27 = .ok (.ifCond .eq 6, 3) := by decide +kernel
theorem dX10_item_30 : decode cX10_item 30 = .ok (.iload 6, 2) := by decide +kernel
theorem dX10_item_32 : decode cX10_item 32 = .ok (.ireturn, 1) := by decide +kernel
theorem dX10_item_33 : decode cX10_item 33 = .ok (.aload_n 0, 1) := by decide +kernel
theorem dX10_item_34 : decode cX10_item 34 = .ok (.getfield 49, 3) := by decide +kernel
theorem dX10_item_37 : decode cX10_item 37 = .ok (.iload_n 1, 1) := by decide +kernel
theorem dX10_item_38 : decode cX10_item 38 = .ok (.aaload, 1) := by decide +kernel
theorem dX10_item_39 : decode cX10_item 39 = .ok (.getfield 295, 3) := by decide +kernel
theorem dX10_item_42 : decode cX10_item 42 = .ok (.iload_n 3, 1) := by decide +kernel
theorem dX10_item_43 : decode cX10_item 43 = .ok (.iload_n 2, 1) := by decide +kernel
theorem dX10_item_44 : decode cX10_item 44 = .ok (.lload 4, 2) := by decide +kernel
theorem dX10_item_46 : decode cX10_item 46 = .ok (.invokestatic 309, 3) := by decide +kernel
theorem dX10_item_49 : decode cX10_item 49 = .ok (.lastore, 1) := by decide +kernel
theorem dX10_item_50 : decode cX10_item 50 = .ok (.iconst 1, 1) := by decide +kernel
theorem dX10_item_51 : decode cX10_item 51 = .ok (.ireturn, 1) := by decide +kernel
theorem dX10_copy_0 : decode cX10_copy 0 = .ok (.iload_n 1, 1) := by decide +kernel
theorem dX10_copy_1 : decode cX10_copy 1 = .ok (.iconst 0, 1) := by decide +kernel
theorem dX10_copy_2 : decode cX10_copy 2 = .ok (.iconst 3, 1) := by decide +kernel
theorem dX10_copy_3 : decode cX10_copy 3 = .ok (.invokestatic 54, 3) := by decide +kernel
theorem dX10_copy_6 : decode cX10_copy 6 = .ok (.ifCond .eq 12, 3) := by decide +kernel
theorem dX10_copy_9 : decode cX10_copy 9 = .ok (.iload_n 3, 1) := by decide +kernel
theorem dX10_copy_10 : decode cX10_copy 10 = .ok (.iconst 0, 1) := by decide +kernel
theorem dX10_copy_11 : decode cX10_copy 11 = .ok (.iconst 3, 1) := by decide +kernel
theorem dX10_copy_12 : decode cX10_copy 12 = .ok (.invokestatic 54, 3) := by decide +kernel
theorem dX10_copy_15 : decode cX10_copy 15 = .ok (.ifCond .ne 5, 3) := by decide +kernel
theorem dX10_copy_18 : decode cX10_copy 18 = .ok (.iconst (-1), 1) := by decide +kernel
theorem dX10_copy_19 : decode cX10_copy 19 = .ok (.ireturn, 1) := by decide +kernel
theorem dX10_copy_20 : decode cX10_copy 20 = .ok (.aload_n 0, 1) := by decide +kernel
theorem dX10_copy_21 : decode cX10_copy 21 = .ok (.getfield 49, 3) := by decide +kernel
theorem dX10_copy_24 : decode cX10_copy 24 = .ok (.iload_n 1, 1) := by decide +kernel
theorem dX10_copy_25 : decode cX10_copy 25 = .ok (.aaload, 1) := by decide +kernel
theorem dX10_copy_26 : decode cX10_copy 26 = .ok (.astore 6, 2) := by decide +kernel
theorem dX10_copy_28 : decode cX10_copy 28 = .ok (.aload_n 0, 1) := by decide +kernel
theorem dX10_copy_29 : decode cX10_copy 29 = .ok (.getfield 49, 3) := by decide +kernel
theorem dX10_copy_32 : decode cX10_copy 32 = .ok (.iload_n 3, 1) := by decide +kernel
theorem dX10_copy_33 : decode cX10_copy 33 = .ok (.aaload, 1) := by decide +kernel
theorem dX10_copy_34 : decode cX10_copy 34 = .ok (.astore 7, 2) := by decide +kernel
theorem dX10_copy_36 : decode cX10_copy 36 = .ok (.aload 6, 2) := by decide +kernel
theorem dX10_copy_38 : decode cX10_copy 38 = .ok (.getfield 305, 3) := by decide +kernel
theorem dX10_copy_41 : decode cX10_copy 41 = .ok (.ifCond .eq 11, 3) := by decide +kernel
theorem dX10_copy_44 : decode cX10_copy 44 = .ok (.aload 7, 2) := by decide +kernel
theorem dX10_copy_46 : decode cX10_copy 46 = .ok (.getfield 305, 3) := by decide +kernel
theorem dX10_copy_49 : decode cX10_copy 49 = .ok (.ifCond .ne 6, 3) := by decide +kernel
theorem dX10_copy_52 : decode cX10_copy 52 = .ok (.bipush (-11), 2) := by decide +kernel
theorem dX10_copy_54 : decode cX10_copy 54 = .ok (.ireturn, 1) := by decide +kernel
theorem dX10_copy_55 : decode cX10_copy 55 = .ok (.aload 6, 2) := by decide +kernel
theorem dX10_copy_57 : decode cX10_copy 57 = .ok (.getfield 313, 3) := by decide +kernel
theorem dX10_copy_60 : decode cX10_copy 60 = .ok (.aload 7, 2) := by decide +kernel
theorem dX10_copy_62 : decode cX10_copy 62 = .ok (.getfield 313, 3) := by decide +kernel
theorem dX10_copy_65 : decode cX10_copy 65 = .ok (.if_icmp .eq 6, 3) := by decide +kernel
theorem dX10_copy_68 : decode cX10_copy 68 = .ok (.bipush (-12), 2) := by decide +kernel
theorem dX10_copy_70 : decode cX10_copy 70 = .ok (.ireturn, 1) := by decide +kernel
theorem dX10_copy_71 : decode cX10_copy 71 = .ok (.aload 6, 2) := by decide +kernel
theorem dX10_copy_73 : decode cX10_copy 73 = .ok (.iload_n 2, 1) := by decide +kernel
theorem dX10_copy_74 : decode cX10_copy 74 = .ok (.iload 5, 2) := by decide +kernel
theorem dX10_copy_76 : decode cX10_copy 76 = .ok (.invokevirtual 316, 3) := by decide +kernel
theorem dX10_copy_79 : decode cX10_copy 79 = .ok (.ifCond .eq 15, 3) := by decide +kernel
theorem dX10_copy_82 : decode cX10_copy 82 = .ok (.aload 7, 2) := by decide +kernel
theorem dX10_copy_84 : decode cX10_copy 84 = .ok (.iload 4, 2) := by decide +kernel
theorem dX10_copy_86 : decode cX10_copy 86 = .ok (.iload 5, 2) := by decide +kernel
theorem dX10_copy_88 : decode cX10_copy 88 = .ok (.invokevirtual 316, 3) := by decide +kernel
theorem dX10_copy_91 : decode cX10_copy 91 = .ok (.ifCond .ne 6, 3) := by decide +kernel
theorem dX10_copy_94 : decode cX10_copy 94 = .ok (.bipush (-13), 2) := by decide +kernel
theorem dX10_copy_96 : decode cX10_copy 96 = .ok (.ireturn, 1) := by decide +kernel
theorem dX10_copy_97 : decode cX10_copy 97 = .ok (.aload 6, 2) := by decide +kernel
theorem dX10_copy_99 : decode cX10_copy 99 = .ok (.getfield 295, 3) := by decide +kernel
theorem dX10_copy_102 : decode cX10_copy 102 = .ok (.iload_n 2, 1) := by decide +kernel
theorem dX10_copy_103 : decode cX10_copy 103 = .ok (.aload 7, 2) := by decide +kernel
theorem dX10_copy_105 : decode cX10_copy 105 = .ok (.getfield 295, 3) := by decide +kernel
theorem dX10_copy_108 : decode cX10_copy 108 = .ok (.iload 4, 2) := by decide +kernel
theorem dX10_copy_110 : decode cX10_copy 110 = .ok (.iload 5, 2) := by decide +kernel
theorem dX10_copy_112 : decode cX10_copy 112 = .ok (.invokestatic 319, 3) := by decide +kernel
theorem dX10_copy_115 : decode cX10_copy 115 = .ok (.iload 5, 2) := by decide +kernel
theorem dX10_copy_117 : decode cX10_copy 117 = .ok (.ireturn, 1) := by decide +kernel
theorem dX10_isWithin_0 : decode cX10_isWithin 0 = .ok (.iload_n 0, 1) := by decide +kernel
theorem dX10_isWithin_1 : decode cX10_isWithin 1 = .ok (.iload_n 1, 1) := by decide +kernel
theorem dX10_isWithin_2 : decode cX10_isWithin 2 = .ok (.if_icmp .lt 12, 3) := by decide +kernel
theorem dX10_isWithin_5 : decode cX10_isWithin 5 = .ok (.iload_n 0, 1) := by decide +kernel
theorem dX10_isWithin_6 : decode cX10_isWithin 6 = .ok (.iload_n 2, 1) := by decide +kernel
theorem dX10_isWithin_7 : decode cX10_isWithin 7 = .ok (.if_icmp .gt 7, 3) := by decide +kernel
theorem dX10_isWithin_10 : decode cX10_isWithin 10 = .ok (.iconst 1, 1) := by decide +kernel
theorem dX10_isWithin_11 : decode cX10_isWithin 11 = .ok (.goto 4, 3) := by decide +kernel
theorem dX10_isWithin_14 : decode cX10_isWithin 14 = .ok (.iconst 0, 1) := by decide +kernel
theorem dX10_isWithin_15 : decode cX10_isWithin 15 = .ok (.ireturn, 1) := by decide +kernel
theorem dX10_oneIf_0 : decode cX10_oneIf 0 = .ok (.iload_n 0, 1) := by decide +kernel
theorem dX10_oneIf_1 : decode cX10_oneIf 1 = .ok (.ifCond .eq 7, 3) := by decide +kernel
theorem dX10_oneIf_4 : decode cX10_oneIf 4 = .ok (.iconst 1, 1) := by decide +kernel
theorem dX10_oneIf_5 : decode cX10_oneIf 5 = .ok (.goto 4, 3) := by decide +kernel
theorem dX10_oneIf_8 : decode cX10_oneIf 8 = .ok (.iconst 0, 1) := by decide +kernel
theorem dX10_oneIf_9 : decode cX10_oneIf 9 = .ok (.ireturn, 1) := by decide +kernel
theorem dX10_secondsFor_0 : decode cX10_secondsFor 0 = .ok (.iload_n 1, 1) := by decide +kernel
theorem dX10_secondsFor_1 : decode cX10_secondsFor 1 = .ok (.iconst 1, 1) := by decide +kernel
theorem dX10_secondsFor_2 : decode cX10_secondsFor 2 = .ok (.if_icmp .ge 7, 3) := by decide +kernel
theorem dX10_secondsFor_5 : decode cX10_secondsFor 5 = .ok (.iload_n 0, 1) := by decide +kernel
theorem dX10_secondsFor_6 : decode cX10_secondsFor 6 = .ok (.goto 10, 3) := by decide +kernel
theorem dX10_secondsFor_9 : decode cX10_secondsFor 9 = .ok (.iload_n 0, 1) := by decide +kernel
theorem dX10_secondsFor_10 : decode cX10_secondsFor 10 = .ok (.iload_n 1, 1) := by decide +kernel
theorem dX10_secondsFor_11 : decode cX10_secondsFor 11 = .ok (.iadd, 1) := by decide +kernel
theorem dX10_secondsFor_12 : decode cX10_secondsFor 12 = .ok (.iconst 1, 1) := by decide +kernel
theorem dX10_secondsFor_13 : decode cX10_secondsFor 13 = .ok (.isub, 1) := by decide +kernel
theorem dX10_secondsFor_14 : decode cX10_secondsFor 14 = .ok (.iload_n 1, 1) := by decide +kernel
theorem dX10_secondsFor_15 : decode cX10_secondsFor 15 = .ok (.idiv, 1) := by decide +kernel
theorem dX10_secondsFor_16 : decode cX10_secondsFor 16 = .ok (.ireturn, 1) := by decide +kernel
theorem dX10_lowestBits_0 : decode cX10_lowestBits 0 = .ok (.iload_n 0, 1) := by decide +kernel
theorem dX10_lowestBits_1 : decode cX10_lowestBits 1 = .ok (.tableswitch 41 0 2 #[27, 32, 37], 27) := by decide +kernel
theorem dX10_lowestBits_28 : decode cX10_lowestBits 28 = .ok (.lload_n 1, 1) := by decide +kernel
theorem dX10_lowestBits_29 : decode cX10_lowestBits 29 = .ok (.l2i, 1) := by decide +kernel
theorem dX10_lowestBits_30 : decode cX10_lowestBits 30 = .ok (.i2b, 1) := by decide +kernel
theorem dX10_lowestBits_31 : decode cX10_lowestBits 31 = .ok (.i2l, 1) := by decide +kernel
theorem dX10_lowestBits_32 : decode cX10_lowestBits 32 = .ok (.lreturn, 1) := by decide +kernel
theorem dX10_lowestBits_33 : decode cX10_lowestBits 33 = .ok (.lload_n 1, 1) := by decide +kernel
theorem dX10_lowestBits_34 : decode cX10_lowestBits 34 = .ok (.l2i, 1) := by decide +kernel
theorem dX10_lowestBits_35 : decode cX10_lowestBits 35 = .ok (.i2s, 1) := by decide +kernel
theorem dX10_lowestBits_36 : decode cX10_lowestBits 36 = .ok (.i2l, 1) := by decide +kernel
theorem dX10_lowestBits_37 : decode cX10_lowestBits 37 = .ok (.lreturn, 1) := by decide +kernel
theorem dX10_lowestBits_38 : decode cX10_lowestBits 38 = .ok (.lload_n 1, 1) := by decide +kernel
theorem dX10_lowestBits_39 : decode cX10_lowestBits 39 = .ok (.l2i, 1) := by decide +kernel
theorem dX10_lowestBits_40 : decode cX10_lowestBits 40 = .ok (.i2l, 1) := by decide +kernel
theorem dX10_lowestBits_41 : decode cX10_lowestBits 41 = .ok (.lreturn, 1) := by decide +kernel
theorem dX10_lowestBits_42 : decode cX10_lowestBits 42 = .ok (.lload_n 1, 1) := by decide +kernel
theorem dX10_lowestBits_43 : decode cX10_lowestBits 43 = .ok (.lreturn, 1) := by decide +kernel
theorem dX10_isPair_0 : decode cX10_isPair 0 = .ok (.iload_n 1, 1) := by decide +kernel
theorem dX10_isPair_1 : decode cX10_isPair 1 = .ok (.iconst 0, 1) := by decide +kernel
theorem dX10_isPair_2 : decode cX10_isPair 2 = .ok (.aload_n 0, 1) := by decide +kernel
theorem dX10_isPair_3 : decode cX10_isPair 3 = .ok (.getfield 12, 3) := by decide +kernel
theorem dX10_isPair_6 : decode cX10_isPair 6 = .ok (.getfield 58, 3) := by decide +kernel
theorem dX10_isPair_9 : decode cX10_isPair 9 = .ok (.iconst 1, 1) := by decide +kernel
theorem dX10_isPair_10 : decode cX10_isPair 10 = .ok (.isub, 1) := by decide +kernel
theorem dX10_isPair_11 : decode cX10_isPair 11 = .ok (.invokestatic 54, 3) := by decide +kernel
theorem dX10_isPair_14 : decode cX10_isPair 14 = .ok (.ireturn, 1) := by decide +kernel
theorem dX10_isShip_0 : decode cX10_isShip 0 = .ok (.iload_n 1, 1) := by decide +kernel
theorem dX10_isShip_1 : decode cX10_isShip 1 = .ok (.iconst 0, 1) := by decide +kernel
theorem dX10_isShip_2 : decode cX10_isShip 2 = .ok (.aload_n 0, 1) := by decide +kernel
theorem dX10_isShip_3 : decode cX10_isShip 3 = .ok (.getfield 12, 3) := by decide +kernel
theorem dX10_isShip_6 : decode cX10_isShip 6 = .ok (.getfield 82, 3) := by decide +kernel
theorem dX10_isShip_9 : decode cX10_isShip 9 = .ok (.iconst 1, 1) := by decide +kernel
theorem dX10_isShip_10 : decode cX10_isShip 10 = .ok (.isub, 1) := by decide +kernel
theorem dX10_isShip_11 : decode cX10_isShip 11 = .ok (.invokestatic 54, 3) := by decide +kernel
theorem dX10_isShip_14 : decode cX10_isShip 14 = .ok (.ireturn, 1) := by decide +kernel
theorem dX10_isBegin_0 : decode cX10_isBegin 0 = .ok (.aload_n 0, 1) := by decide +kernel
theorem dX10_isBegin_1 : decode cX10_isBegin 1 = .ok (.iload_n 1, 1) := by decide +kernel
theorem dX10_isBegin_2 : decode cX10_isBegin 2 = .ok (.invokevirtual 103, 3) := by decide +kernel
theorem dX10_isBegin_5 : decode cX10_isBegin 5 = .ok (.ifCond .eq 18, 3) := by decide +kernel
theorem dX10_isBegin_8 : decode cX10_isBegin 8 = .ok (.iload_n 2, 1) := by decide +kernel
theorem dX10_isBegin_9 : decode cX10_isBegin 9 = .ok (.iconst 0, 1) := by decide +kernel
theorem dX10_isBegin_10 : decode cX10_isBegin 10 = .ok (.sipush 9999, 3) := by decide +kernel
theorem dX10_isBegin_13 : decode cX10_isBegin 13 = .ok (.invokestatic 54, 3) := by decide +kernel
theorem dX10_isBegin_16 : decode cX10_isBegin 16 = .ok (.ifCond .eq 7, 3) := by decide +kernel
theorem dX10_isBegin_19 : decode cX10_isBegin 19 = .ok (.iconst 1, 1) := by decide +kernel
theorem dX10_isBegin_20 : decode cX10_isBegin 20 = .ok (.goto 4, 3) := by decide +kernel
theorem dX10_isBegin_23 : decode cX10_isBegin 23 = .ok (.iconst 0, 1) := by decide +kernel
theorem dX10_isBegin_24 : decode cX10_isBegin 24 = .ok (.ireturn, 1) := by decide +kernel
theorem dX10_isRow_0 : decode cX10_isRow 0 = .ok (.iload_n 1, 1) := by decide +kernel
theorem dX10_isRow_1 : decode cX10_isRow 1 = .ok (.iconst 0, 1) := by decide +kernel
theorem dX10_isRow_2 : decode cX10_isRow 2 = .ok (.iconst 3, 1) := by decide +kernel
theorem dX10_isRow_3 : decode cX10_isRow 3 = .ok (.invokestatic 54, 3) := by decide +kernel
theorem dX10_isRow_6 : decode cX10_isRow 6 = .ok (.ifCond .eq 16, 3) := by decide +kernel
theorem dX10_isRow_9 : decode cX10_isRow 9 = .ok (.iload_n 2, 1) := by decide +kernel
theorem dX10_isRow_10 : decode cX10_isRow 10 = .ok (.iconst 0, 1) := by decide +kernel
theorem dX10_isRow_11 : decode cX10_isRow 11 = .ok (.iconst 3, 1) := by decide +kernel
theorem dX10_isRow_12 : decode cX10_isRow 12 = .ok (.invokestatic 54, 3) := by decide +kernel
theorem dX10_isRow_15 : decode cX10_isRow 15 = .ok (.ifCond .eq 7, 3) := by decide +kernel
theorem dX10_isRow_18 : decode cX10_isRow 18 = .ok (.iconst 1, 1) := by decide +kernel
theorem dX10_isRow_19 : decode cX10_isRow 19 = .ok (.goto 4, 3) := by decide +kernel
theorem dX10_isRow_22 : decode cX10_isRow 22 = .ok (.iconst 0, 1) := by decide +kernel
theorem dX10_isRow_23 : decode cX10_isRow 23 = .ok (.ireturn, 1) := by decide +kernel
theorem dX10_goFull_0 : decode cX10_goFull 0 = .ok (.aload_n 0, 1) := by decide +kernel
theorem dX10_goFull_1 : decode cX10_goFull 1 = .ok (.getfield 12, 3) := by decide +kernel
theorem dX10_goFull_4 : decode cX10_goFull 4 = .ok (.getfield 85, 3) := by decide +kernel
theorem dX10_goFull_7 : decode cX10_goFull 7 = .ok (.iload_n 1, 1) := by decide +kernel
theorem dX10_goFull_8 : decode cX10_goFull 8 = .ok (.aaload, 1) := by decide +kernel
theorem dX10_goFull_9 : decode cX10_goFull 9 = .ok (.astore_n 3, 1) := by decide +kernel
theorem dX10_goFull_10 : decode cX10_goFull 10 = .ok (.aload_n 0, 1) := by decide +kernel
theorem dX10_goFull_11 : decode cX10_goFull 11 = .ok (.getfield 29, 3) := by decide +kernel
theorem dX10_goFull_14 : decode cX10_goFull 14 = .ok (.getfield 299, 3) := by decide +kernel
theorem dX10_goFull_17 : decode cX10_goFull 17 = .ok (.aload_n 3, 1) := by decide +kernel
theorem dX10_goFull_18 : decode cX10_goFull 18 = .ok (.invokevirtual 117, 3) := by decide +kernel
theorem dX10_goFull_21 : decode cX10_goFull 21 = .ok (.invokestatic 325, 3) := by decide +kernel
theorem dX10_goFull_24 : decode cX10_goFull 24 = .ok (.aload_n 0, 1) := by decide +kernel
theorem dX10_goFull_25 : decode cX10_goFull 25 = .ok (.getfield 29, 3) := by decide +kernel
theorem dX10_goFull_28 : decode cX10_goFull 28 = .ok (.aload_n 0, 1) := by decide +kernel
theorem dX10_goFull_29 : decode cX10_goFull 29 = .ok (.getfield 12, 3) := by decide +kernel
theorem dX10_goFull_32 : decode cX10_goFull 32 = .ok (.aload_n 3, 1) := by decide +kernel
theorem dX10_goFull_33 : decode cX10_goFull 33 = .ok (.iload_n 2, 1) := by decide +kernel
theorem dX10_goFull_34 : decode cX10_goFull 34 = .ok (.invokevirtual 300, 3) := by decide +kernel
theorem dX10_goFull_37 : decode cX10_goFull 37 = .ok (.return_, 1) := by decide +kernel
theorem dX10_convoyTime_0 : decode cX10_convoyTime 0 = .ok (.iconst 0, 1) := by decide +kernel
theorem dX10_convoyTime_1 : decode cX10_convoyTime 1 = .ok (.istore_n 2, 1) := by decide +kernel
theorem dX10_convoyTime_2 : decode cX10_convoyTime 2 = .ok (.iconst 0, 1) := by decide +kernel
theorem dX10_convoyTime_3 : decode cX10_convoyTime 3 = .ok (.istore_n 3, 1) := by decide +kernel
theorem dX10_convoyTime_4 : decode cX10_convoyTime 4 = .ok (.iload_n 3, 1) := by decide +kernel
theorem dX10_convoyTime_5 : decode cX10_convoyTime 5 = .ok (.aload_n 0, 1) := by decide +kernel
theorem dX10_convoyTime_6 : decode cX10_convoyTime 6 = .ok (.getfield 12, 3) := by decide +kernel
theorem dX10_convoyTime_9 : decode cX10_convoyTime 9 = .ok (.getfield 82, 3) := by decide +kernel
theorem dX10_convoyTime_12 : decode cX10_convoyTime 12 = .ok (.if_icmp .ge 48, 3) := by decide +kernel
theorem dX10_convoyTime_15 : decode cX10_convoyTime 15 = .ok (.iload_n 1, 1) := by decide +kernel
theorem dX10_convoyTime_16 : decode cX10_convoyTime 16 = .ok (.iload_n 3, 1) := by decide +kernel
theorem dX10_convoyTime_17 : decode cX10_convoyTime 17 = .ok (.ishr, 1) := by decide +kernel
theorem dX10_convoyTime_18 : decode cX10_convoyTime 18 = .ok (.iconst 1, 1) := by decide +kernel
theorem dX10_convoyTime_19 : decode cX10_convoyTime 19 = .ok (.iand, 1) := by decide +kernel
theorem dX10_convoyTime_20 : decode cX10_convoyTime 20 = .ok (.iconst 1, 1) := by decide +kernel
theorem dX10_convoyTime_21 : decode cX10_convoyTime 21 = .ok (.if_icmp .ne 33, 3) := by decide +kernel
theorem dX10_convoyTime_24 : decode cX10_convoyTime 24 = .ok (.iload_n 2, 1) := by decide +kernel
theorem dX10_convoyTime_25 : decode cX10_convoyTime 25 = .ok (.aload_n 0, 1) := by decide +kernel
theorem dX10_convoyTime_26 : decode cX10_convoyTime 26 = .ok (.getfield 12, 3) := by decide +kernel
theorem dX10_convoyTime_29 : decode cX10_convoyTime 29 = .ok (.getfield 85, 3) := by decide +kernel
theorem dX10_convoyTime_32 : decode cX10_convoyTime 32 = .ok (.iload_n 3, 1) := by decide +kernel
theorem dX10_convoyTime_33 : decode cX10_convoyTime 33 = .ok (.aaload, 1) := by decide +kernel
theorem dX10_convoyTime_34 : decode cX10_convoyTime 34 = .ok (.invokevirtual 120, 3) := by decide +kernel
theorem dX10_convoyTime_37 : decode cX10_convoyTime 37 = .ok (.aload_n 0, 1) := by decide +kernel
theorem dX10_convoyTime_38 : decode cX10_convoyTime 38 = .ok (.getfield 12, 3) := by decide +kernel
theorem dX10_convoyTime_41 : decode cX10_convoyTime 41 = .ok (.getfield 85, 3) := by decide +kernel
theorem dX10_convoyTime_44 : decode cX10_convoyTime 44 = .ok (.iload_n 3, 1) := by decide +kernel
theorem dX10_convoyTime_45 : decode cX10_convoyTime 45 = .ok (.aaload, 1) := by decide +kernel
theorem dX10_convoyTime_46 : decode cX10_convoyTime 46 = .ok (.invokevirtual 117, 3) := by decide +kernel
theorem dX10_convoyTime_49 : decode cX10_convoyTime 49 = .ok (.invokestatic 331, 3) := by decide +kernel
theorem dX10_convoyTime_52 : decode cX10_convoyTime 52 = .ok (.iadd, 1) := by decide +kernel
theorem dX10_convoyTime_53 : decode cX10_convoyTime 53 = .ok (.istore_n 2, 1) := by decide +kernel
theorem dX10_convoyTime_54 : decode cX10_convoyTime 54 = .ok (.iinc 3 1, 3) := by decide +kernel
theorem dX10_convoyTime_57 : decode cX10_convoyTime 57 = .ok (.goto (-53), 3) := by decide +kernel
theorem dX10_convoyTime_60 : decode cX10_convoyTime 60 = .ok (.iload_n 2, 1) := by decide +kernel
theorem dX10_convoyTime_61 : decode cX10_convoyTime 61 = .ok (.ireturn, 1) := by decide +kernel
theorem dJ11_isValidCodePoint_9a6ad_0 : decode cJ11_isValidCodePoint_9a6ad 0 = .ok (.iload_n 0, 1) := by decide +kernel
theorem dJ11_isValidCodePoint_9a6ad_1 : decode cJ11_isValidCodePoint_9a6ad 1 = .ok (.bipush 16, 2) := by decide +kernel
theorem dJ11_isValidCodePoint_9a6ad_3 : decode cJ11_isValidCodePoint_9a6ad 3 = .ok (.iushr, 1) := by decide +kernel
theorem dJ11_isValidCodePoint_9a6ad_4 : decode cJ11_isValidCodePoint_9a6ad 4 = .ok (.istore_n 1, 1) := by decide +kernel
theorem dJ11_isValidCodePoint_9a6ad_5 : decode cJ11_isValidCodePoint_9a6ad 5 = .ok (.iload_n 1, 1) := by decide +kernel
theorem dJ11_isValidCodePoint_9a6ad_6 : decode cJ11_isValidCodePoint_9a6ad 6 = .ok (.bipush 17, 2) := by decide +kernel
theorem dJ11_isValidCodePoint_9a6ad_8 : decode cJ11_isValidCodePoint_9a6ad 8 = .ok (.if_icmp .ge 7, 3) := by decide +kernel
theorem dJ11_isValidCodePoint_9a6ad_11 : decode cJ11_isValidCodePoint_9a6ad 11 = .ok (.iconst 1, 1) := by decide +kernel
theorem dJ11_isValidCodePoint_9a6ad_12 : decode cJ11_isValidCodePoint_9a6ad 12 = .ok (.goto 4, 3) := by decide +kernel
theorem dJ11_isValidCodePoint_9a6ad_15 : decode cJ11_isValidCodePoint_9a6ad 15 = .ok (.iconst 0, 1) := by decide +kernel
theorem dJ11_isValidCodePoint_9a6ad_16 : decode cJ11_isValidCodePoint_9a6ad 16 = .ok (.ireturn, 1) := by decide +kernel
theorem dJ11_highSurrogate_5068e_0 : decode cJ11_highSurrogate_5068e 0 = .ok (.iload_n 0, 1) := by decide +kernel
theorem dJ11_highSurrogate_5068e_1 : decode cJ11_highSurrogate_5068e 1 = .ok (.bipush 10, 2) := by decide +kernel
theorem dJ11_highSurrogate_5068e_3 : decode cJ11_highSurrogate_5068e 3 = .ok (.iushr, 1) := by decide +kernel
theorem dJ11_highSurrogate_5068e_4 : decode cJ11_highSurrogate_5068e 4 = .ok (.ldc 110, 2) := by decide +kernel
theorem dJ11_highSurrogate_5068e_6 : decode cJ11_highSurrogate_5068e 6 = .ok (.iadd, 1) := by decide +kernel
theorem dJ11_highSurrogate_5068e_7 : decode cJ11_highSurrogate_5068e 7 = .ok (.i2c, 1) := by decide +kernel
theorem dJ11_highSurrogate_5068e_8 : decode cJ11_highSurrogate_5068e 8 = .ok (.ireturn, 1) := by decide +kernel
theorem dJ11_lowSurrogate_5068e_0 : decode cJ11_lowSurrogate_5068e 0 = .ok (.iload_n 0, 1) := by decide +kernel
theorem dJ11_lowSurrogate_5068e_1 : decode cJ11_lowSurrogate_5068e 1 = .ok (.sipush 1023, 3) := by decide +kernel
theorem dJ11_lowSurrogate_5068e_4 : decode cJ11_lowSurrogate_5068e 4 = .ok (.iand, 1) := by decide +kernel
theorem dJ11_lowSurrogate_5068e_5 : decode cJ11_lowSurrogate_5068e 5 = .ok (.ldc 76, 2) := by decide +kernel
theorem dJ11_lowSurrogate_5068e_7 : decode cJ11_lowSurrogate_5068e 7 = .ok (.iadd, 1) := by decide +kernel
theorem dJ11_lowSurrogate_5068e_8 : decode cJ11_lowSurrogate_5068e 8 = .ok (.i2c, 1) := by decide +kernel
theorem dJ11_lowSurrogate_5068e_9 : decode cJ11_lowSurrogate_5068e 9 = .ok (.ireturn, 1) := by decide +kernel
theorem dJ6_bitCount_0f7a4_0 : decode cJ6_bitCount_0f7a4 0 = .ok (.iload_n 0, 1) := by decide +kernel
theorem dJ6_bitCount_0f7a4_1 : decode cJ6_bitCount_0f7a4 1 = .ok (.iload_n 0, 1) := by decide +kernel
theorem dJ6_bitCount_0f7a4_2 : decode cJ6_bitCount_0f7a4 2 = .ok (.iconst 1, 1) := by decide +kernel
theorem dJ6_bitCount_0f7a4_3 : decode cJ6_bitCount_0f7a4 3 = .ok (.iushr, 1) := by decide +kernel
theorem dJ6_bitCount_0f7a4_4 : decode cJ6_bitCount_0f7a4 4 = .ok (.ldc_w 265, 3) := by decide +kernel
theorem dJ6_bitCount_0f7a4_7 : decode cJ6_bitCount_0f7a4 7 = .ok (.iand, 1) := by decide +kernel
theorem dJ6_bitCount_0f7a4_8 : decode cJ6_bitCount_0f7a4 8 = .ok (.isub, 1) := by decide +kernel
theorem dJ6_bitCount_0f7a4_9 : decode cJ6_bitCount_0f7a4 9 = .ok (.istore_n 0, 1) := by decide +kernel
theorem dJ6_bitCount_0f7a4_10 : decode cJ6_bitCount_0f7a4 10 = .ok (.iload_n 0, 1) := by decide +kernel
theorem dJ6_bitCount_0f7a4_11 : decode cJ6_bitCount_0f7a4 11 = .ok (.ldc_w 266, 3) := by decide +kernel
theorem dJ6_bitCount_0f7a4_14 : decode cJ6_bitCount_0f7a4 14 = .ok (.iand, 1) := by decide +kernel
theorem dJ6_bitCount_0f7a4_15 : decode cJ6_bitCount_0f7a4 15 = .ok (.iload_n 0, 1) := by decide +kernel
theorem dJ6_bitCount_0f7a4_16 : decode cJ6_bitCount_0f7a4 16 = .ok (.iconst 2, 1) := by decide +kernel
theorem dJ6_bitCount_0f7a4_17 : decode cJ6_bitCount_0f7a4 17 = .ok (.iushr, 1) := by decide +kernel
theorem dJ6_bitCount_0f7a4_18 : decode cJ6_bitCount_0f7a4 18 = .ok (.ldc_w 266, 3) := by decide +kernel
theorem dJ6_bitCount_0f7a4_21 : decode cJ6_bitCount_0f7a4 21 = .ok (.iand, 1) := by decide +kernel
theorem dJ6_bitCount_0f7a4_22 : decode cJ6_bitCount_0f7a4 22 = .ok (.iadd, 1) := by decide +kernel
theorem dJ6_bitCount_0f7a4_23 : decode cJ6_bitCount_0f7a4 23 = .ok (.istore_n 0, 1) := by decide +kernel
theorem dJ6_bitCount_0f7a4_24 : decode cJ6_bitCount_0f7a4 24 = .ok (.iload_n 0, 1) := by decide +kernel
theorem dJ6_bitCount_0f7a4_25 : decode cJ6_bitCount_0f7a4 25 = .ok (.iload_n 0, 1) := by decide +kernel
theorem dJ6_bitCount_0f7a4_26 : decode cJ6_bitCount_0f7a4 26 = .ok (.iconst 4, 1) := by decide +kernel
theorem dJ6_bitCount_0f7a4_27 : decode cJ6_bitCount_0f7a4 27 = .ok (.iushr, 1) := by decide +kernel
theorem dJ6_bitCount_0f7a4_28 : decode cJ6_bitCount_0f7a4 28 = .ok (.iadd, 1) := by decide +kernel
theorem dJ6_bitCount_0f7a4_29 : decode cJ6_bitCount_0f7a4 29 = .ok (.ldc_w 267, 3) := by decide +kernel
theorem dJ6_bitCount_0f7a4_32 : decode cJ6_bitCount_0f7a4 32 = .ok (.iand, 1) := by decide +kernel
theorem dJ6_bitCount_0f7a4_33 : decode cJ6_bitCount_0f7a4 33 = .ok (.istore_n 0, 1) := by decide +kernel
theorem dJ6_bitCount_0f7a4_34 : decode cJ6_bitCount_0f7a4 34 = .ok (.iload_n 0, 1) := by decide +kernel
theorem dJ6_bitCount_0f7a4_35 : decode cJ6_bitCount_0f7a4 35 = .ok (.iload_n 0, 1) := by decide +kernel
theorem dJ6_bitCount_0f7a4_36 : decode cJ6_bitCount_0f7a4 36 = .ok (.bipush 8, 2) := by decide +kernel
theorem dJ6_bitCount_0f7a4_38 : decode cJ6_bitCount_0f7a4 38 = .ok (.iushr, 1) := by decide +kernel
theorem dJ6_bitCount_0f7a4_39 : decode cJ6_bitCount_0f7a4 39 = .ok (.iadd, 1) := by decide +kernel
theorem dJ6_bitCount_0f7a4_40 : decode cJ6_bitCount_0f7a4 40 = .ok (.istore_n 0, 1) := by decide +kernel
theorem dJ6_bitCount_0f7a4_41 : decode cJ6_bitCount_0f7a4 41 = .ok (.iload_n 0, 1) := by decide +kernel
theorem dJ6_bitCount_0f7a4_42 : decode cJ6_bitCount_0f7a4 42 = .ok (.iload_n 0, 1) := by decide +kernel
theorem dJ6_bitCount_0f7a4_43 : decode cJ6_bitCount_0f7a4 43 = .ok (.bipush 16, 2) := by decide +kernel
theorem dJ6_bitCount_0f7a4_45 : decode cJ6_bitCount_0f7a4 45 = .ok (.iushr, 1) := by decide +kernel
theorem dJ6_bitCount_0f7a4_46 : decode cJ6_bitCount_0f7a4 46 = .ok (.iadd, 1) := by decide +kernel
theorem dJ6_bitCount_0f7a4_47 : decode cJ6_bitCount_0f7a4 47 = .ok (.istore_n 0, 1) := by decide +kernel
theorem dJ6_bitCount_0f7a4_48 : decode cJ6_bitCount_0f7a4 48 = .ok (.iload_n 0, 1) := by decide +kernel
theorem dJ6_bitCount_0f7a4_49 : decode cJ6_bitCount_0f7a4 49 = .ok (.bipush 63, 2) := by decide +kernel
theorem dJ6_bitCount_0f7a4_51 : decode cJ6_bitCount_0f7a4 51 = .ok (.iand, 1) := by decide +kernel
theorem dJ6_bitCount_0f7a4_52 : decode cJ6_bitCount_0f7a4 52 = .ok (.ireturn, 1) := by decide +kernel
theorem dJ9_max_7cf53_0 : decode cJ9_max_7cf53 0 = .ok (.iload_n 0, 1) := by decide +kernel
theorem dJ9_max_7cf53_1 : decode cJ9_max_7cf53 1 = .ok (.iload_n 1, 1) := by decide +kernel
theorem dJ9_max_7cf53_2 : decode cJ9_max_7cf53 2 = .ok (.if_icmp .lt 7, 3) := by decide +kernel
theorem dJ9_max_7cf53_5 : decode cJ9_max_7cf53 5 = .ok (.iload_n 0, 1) := by decide +kernel
theorem dJ9_max_7cf53_6 : decode cJ9_max_7cf53 6 = .ok (.goto 4, 3) := by decide +kernel
theorem dJ9_max_7cf53_9 : decode cJ9_max_7cf53 9 = .ok (.iload_n 1, 1) := by decide +kernel
theorem dJ9_max_7cf53_10 : decode cJ9_max_7cf53 10 = .ok (.ireturn, 1) := by decide +kernel
theorem dJ9_min_7cf53_0 : decode cJ9_min_7cf53 0 = .ok (.iload_n 0, 1) := by decide +kernel
theorem dJ9_min_7cf53_1 : decode cJ9_min_7cf53 1 = .ok (.iload_n 1, 1) := by decide +kernel
theorem dJ9_min_7cf53_2 : decode cJ9_min_7cf53 2 = .ok (.if_icmp .gt 7, 3) := by decide +kernel
theorem dJ9_min_7cf53_5 : decode cJ9_min_7cf53 5 = .ok (.iload_n 0, 1) := by decide +kernel
theorem dJ9_min_7cf53_6 : decode cJ9_min_7cf53 6 = .ok (.goto 4, 3) := by decide +kernel
theorem dJ9_min_7cf53_9 : decode cJ9_min_7cf53 9 = .ok (.iload_n 1, 1) := by decide +kernel
theorem dJ9_min_7cf53_10 : decode cJ9_min_7cf53 10 = .ok (.ireturn, 1) := by decide +kernel
theorem dJ0_length_8abf5_0 : decode cJ0_length_8abf5 0 = .ok (.aload_n 0, 1) := by decide +kernel
theorem dJ0_length_8abf5_1 : decode cJ0_length_8abf5 1 = .ok (.getfield 9, 3) := by decide +kernel
theorem dJ0_length_8abf5_4 : decode cJ0_length_8abf5 4 = .ok (.arraylength, 1) := by decide +kernel
theorem dJ0_length_8abf5_5 : decode cJ0_length_8abf5 5 = .ok (.aload_n 0, 1) := by decide +kernel
theorem dJ0_length_8abf5_6 : decode cJ0_length_8abf5 6 = .ok (.invokevirtual 335, 3) := by decide +kernel
theorem dJ0_length_8abf5_9 : decode cJ0_length_8abf5 9 = .ok (.ishr, 1) := by decide +kernel
theorem dJ0_length_8abf5_10 : decode cJ0_length_8abf5 10 = .ok (.ireturn, 1) := by decide +kernel
theorem dJ0_indexOf_0f7a4_0 : decode cJ0_indexOf_0f7a4 0 = .ok (.aload_n 0, 1) := by decide +kernel
theorem dJ0_indexOf_0f7a4_1 : decode cJ0_indexOf_0f7a4 1 = .ok (.iload_n 1, 1) := by decide +kernel
theorem dJ0_indexOf_0f7a4_2 : decode cJ0_indexOf_0f7a4 2 = .ok (.iconst 0, 1) := by decide +kernel
theorem dJ0_indexOf_0f7a4_3 : decode cJ0_indexOf_0f7a4 3 = .ok (.invokevirtual 633, 3) := by decide +kernel
theorem dJ0_indexOf_0f7a4_6 : decode cJ0_indexOf_0f7a4 6 = .ok (.ireturn, 1) := by decide +kernel
theorem dJ0_indexOf_7cf53_0 : decode cJ0_indexOf_7cf53 0 = .ok (.aload_n 0, 1) := by decide +kernel
theorem dJ0_indexOf_7cf53_1 : decode cJ0_indexOf_7cf53 1 = .ok (.invokevirtual 492, 3) := by decide +kernel
theorem dJ0_indexOf_7cf53_4 : decode cJ0_indexOf_7cf53 4 = .ok (.ifCond .eq 19, 3) := by decide +kernel
theorem dJ0_indexOf_7cf53_7 : decode cJ0_indexOf_7cf53 7 = .ok (.aload_n 0, 1) := by decide +kernel
theorem dJ0_indexOf_7cf53_8 : decode cJ0_indexOf_7cf53 8 = .ok (.getfield 9, 3) := by decide +kernel
theorem dJ0_indexOf_7cf53_11 : decode cJ0_indexOf_7cf53 11 = .ok (.iload_n 1, 1) := by decide +kernel
theorem dJ0_indexOf_7cf53_12 : decode cJ0_indexOf_7cf53 12 = .ok (.iload_n 2, 1) := by decide +kernel
theorem dJ0_indexOf_7cf53_13 : decode cJ0_indexOf_7cf53 13 = .ok (.aload_n 0, 1) := by decide +kernel
theorem dJ0_indexOf_7cf53_14 : decode cJ0_indexOf_7cf53 14 = .ok (.invokevirtual 505, 3) := by decide +kernel
theorem dJ0_indexOf_7cf53_17 : decode cJ0_indexOf_7cf53 17 = .ok (.invokestatic 637, 3) := by decide +kernel
theorem dJ0_indexOf_7cf53_20 : decode cJ0_indexOf_7cf53 20 = .ok (.goto 16, 3) := by decide +kernel
theorem dJ0_indexOf_7cf53_23 : decode cJ0_indexOf_7cf53 23 = .ok (.aload_n 0, 1) := by decide +kernel
theorem dJ0_indexOf_7cf53_24 : decode cJ0_indexOf_7cf53 24 = .ok (.getfield 9, 3) := by decide +kernel
theorem dJ0_indexOf_7cf53_27 : decode cJ0_indexOf_7cf53 27 = .ok (.iload_n 1, 1) := by decide +kernel
theorem dJ0_indexOf_7cf53_28 : decode cJ0_indexOf_7cf53 28 = .ok (.iload_n 2, 1) := by decide +kernel
theorem dJ0_indexOf_7cf53_29 : decode cJ0_indexOf_7cf53 29 = .ok (.aload_n 0, 1) := by decide +kernel
theorem dJ0_indexOf_7cf53_30 : decode cJ0_indexOf_7cf53 30 = .ok (.invokevirtual 505, 3) := by decide +kernel
theorem dJ0_indexOf_7cf53_33 : decode cJ0_indexOf_7cf53 33 = .ok (.invokestatic 640, 3) := by decide +kernel
theorem dJ0_indexOf_7cf53_36 : decode cJ0_indexOf_7cf53 36 = .ok (.ireturn, 1) := by decide +kernel
theorem dJ0_coder_7d493_0 : decode cJ0_coder_7d493 0 = .ok (.getstatic 38, 3) := by decide +kernel
theorem dJ0_coder_7d493_3 : decode cJ0_coder_7d493 3 = .ok (.ifCond .eq 10, 3) := by decide +kernel
theorem dJ0_coder_7d493_6 : decode cJ0_coder_7d493 6 = .ok (.aload_n 0, 1) := by decide +kernel
theorem dJ0_coder_7d493_7 : decode cJ0_coder_7d493 7 = .ok (.getfield 15, 3) := by decide +kernel
theorem dJ0_coder_7d493_10 : decode cJ0_coder_7d493 10 = .ok (.goto 4, 3) := by decide +kernel
theorem dJ0_coder_7d493_13 : decode cJ0_coder_7d493 13 = .ok (.iconst 1, 1) := by decide +kernel
theorem dJ0_coder_7d493_14 : decode cJ0_coder_7d493 14 = .ok (.ireturn, 1) := by decide +kernel
theorem dJ0_isLatin1_aae02_0 : decode cJ0_isLatin1_aae02 0 = .ok (.getstatic 38, 3) := by decide +kernel
theorem dJ0_isLatin1_aae02_3 : decode cJ0_isLatin1_aae02 3 = .ok (.ifCond .eq 14, 3) := by decide +kernel
theorem dJ0_isLatin1_aae02_6 : decode cJ0_isLatin1_aae02 6 = .ok (.aload_n 0, 1) := by decide +kernel
theorem dJ0_isLatin1_aae02_7 : decode cJ0_isLatin1_aae02 7 = .ok (.getfield 15, 3) := by decide +kernel
theorem dJ0_isLatin1_aae02_10 : decode cJ0_isLatin1_aae02 10 = .ok (.ifCond .ne 7, 3) := by decide +kernel
theorem dJ0_isLatin1_aae02_13 : decode cJ0_isLatin1_aae02 13 = .ok (.iconst 1, 1) := by decide +kernel
theorem dJ0_isLatin1_aae02_14 : decode cJ0_isLatin1_aae02 14 = .ok (.goto 4, 3) := by decide +kernel
theorem dJ0_isLatin1_aae02_17 : decode cJ0_isLatin1_aae02 17 = .ok (.iconst 0, 1) := by decide +kernel
theorem dJ0_isLatin1_aae02_18 : decode cJ0_isLatin1_aae02 18 = .ok (.ireturn, 1) := by decide +kernel
theorem dJ0_checkBoundsBeginEnd_23922_0 : decode cJ0_checkBoundsBeginEnd_23922 0 = .ok (.iload_n 0, 1) := by decide +kernel
theorem dJ0_checkBoundsBeginEnd_23922_1 : decode cJ0_checkBoundsBeginEnd_23922 1 = .ok (.iload_n 1, 1) := by decide +kernel
theorem dJ0_checkBoundsBeginEnd_23922_2 : decode cJ0_checkBoundsBeginEnd_23922 2 = .ok (.iload_n 2, 1) := by decide +kernel
theorem dJ0_checkBoundsBeginEnd_23922_3 : decode cJ0_checkBoundsBeginEnd_23922 3 = .ok (.getstatic 1053, 3) := by decide +kernel
theorem dJ0_checkBoundsBeginEnd_23922_6 : decode cJ0_checkBoundsBeginEnd_23922 6 = .ok (.invokestatic 1062, 3) := by decide +kernel
theorem dJ0_checkBoundsBeginEnd_23922_9 : decode cJ0_checkBoundsBeginEnd_23922 9 = .ok (.pop, 1) := by decide +kernel
theorem dJ0_checkBoundsBeginEnd_23922_10 : decode cJ0_checkBoundsBeginEnd_23922 10 = .ok (.return_, 1) := by decide +kernel
theorem dJ1_canEncode_9a6ad_0 : decode cJ1_canEncode_9a6ad 0 = .ok (.iload_n 0, 1) := by decide +kernel
theorem dJ1_canEncode_9a6ad_1 : decode cJ1_canEncode_9a6ad 1 = .ok (.ifCond .lt 14, 3) := by decide +kernel
theorem dJ1_canEncode_9a6ad_4 : decode cJ1_canEncode_9a6ad 4 = .ok (.iload_n 0, 1) := by decide +kernel
theorem dJ1_canEncode_9a6ad_5 : decode cJ1_canEncode_9a6ad 5 = .ok (.sipush 255, 3) := by decide +kernel
theorem dJ1_canEncode_9a6ad_8 : decode cJ1_canEncode_9a6ad 8 = .ok (.if_icmp .gt 7, 3) := by decide +kernel
theorem dJ1_canEncode_9a6ad_11 : decode cJ1_canEncode_9a6ad 11 = .ok (.iconst 1, 1) := by decide +kernel
theorem dJ1_canEncode_9a6ad_12 : decode cJ1_canEncode_9a6ad 12 = .ok (.goto 4, 3) := by decide +kernel
theorem dJ1_canEncode_9a6ad_15 : decode cJ1_canEncode_9a6ad 15 = .ok (.iconst 0, 1) := by decide +kernel
theorem dJ1_canEncode_9a6ad_16 : decode cJ1_canEncode_9a6ad 16 = .ok (.ireturn, 1) := by decide +kernel
theorem dJ1_indexOf_4cfef_0 : decode cJ1_indexOf_4cfef 0 = .ok (.iload_n 1, 1) := by decide +kernel
theorem dJ1_indexOf_4cfef_1 : decode cJ1_indexOf_4cfef 1 = .ok (.invokestatic 88, 3) := by decide +kernel
theorem dJ1_indexOf_4cfef_4 : decode cJ1_indexOf_4cfef 4 = .ok (.ifCond .ne 5, 3) := by decide +kernel
theorem dJ1_indexOf_4cfef_7 : decode cJ1_indexOf_4cfef 7 = .ok (.iconst (-1), 1) := by decide +kernel
theorem dJ1_indexOf_4cfef_8 : decode cJ1_indexOf_4cfef 8 = .ok (.ireturn, 1) := by decide +kernel
theorem dJ1_indexOf_4cfef_9 : decode cJ1_indexOf_4cfef 9 = .ok (.iload_n 2, 1) := by decide +kernel
theorem dJ1_indexOf_4cfef_10 : decode cJ1_indexOf_4cfef 10 = .ok (.iconst 0, 1) := by decide +kernel
theorem dJ1_indexOf_4cfef_11 : decode cJ1_indexOf_4cfef 11 = .ok (.invokestatic 92, 3) := by decide +kernel
theorem dJ1_indexOf_4cfef_14 : decode cJ1_indexOf_4cfef 14 = .ok (.istore_n 2, 1) := by decide +kernel
theorem dJ1_indexOf_4cfef_15 : decode cJ1_indexOf_4cfef 15 = .ok (.iload_n 3, 1) := by decide +kernel
theorem dJ1_indexOf_4cfef_16 : decode cJ1_indexOf_4cfef 16 = .ok (.aload_n 0, 1) := by decide +kernel
theorem dJ1_indexOf_4cfef_17 : decode cJ1_indexOf_4cfef 17 = .ok (.arraylength, 1) := by decide +kernel
theorem dJ1_indexOf_4cfef_18 : decode cJ1_indexOf_4cfef 18 = .ok (.invokestatic 38, 3) := by decide +kernel
theorem dJ1_indexOf_4cfef_21 : decode cJ1_indexOf_4cfef 21 = .ok (.istore_n 3, 1) := by decide +kernel
theorem dJ1_indexOf_4cfef_22 : decode cJ1_indexOf_4cfef 22 = .ok (.iload_n 2, 1) := by decide +kernel
theorem dJ1_indexOf_4cfef_23 : decode cJ1_indexOf_4cfef 23 = .ok (.iload_n 3, 1) := by decide +kernel
theorem dJ1_indexOf_4cfef_24 : decode cJ1_indexOf_4cfef 24 = .ok (.if_icmp .lt 5, 3) := by decide +kernel
theorem dJ1_indexOf_4cfef_27 : decode cJ1_indexOf_4cfef 27 = .ok (.iconst (-1), 1) := by decide +kernel
theorem dJ1_indexOf_4cfef_28 : decode cJ1_indexOf_4cfef 28 = .ok (.ireturn, 1) := by decide +kernel
theorem dJ1_indexOf_4cfef_29 : decode cJ1_indexOf_4cfef 29 = .ok (.aload_n 0, 1) := by decide +kernel
theorem dJ1_indexOf_4cfef_30 : decode cJ1_indexOf_4cfef 30 = .ok (.iload_n 1, 1) := by decide +kernel
theorem dJ1_indexOf_4cfef_31 : decode cJ1_indexOf_4cfef 31 = .ok (.iload_n 2, 1) := by decide +kernel
theorem dJ1_indexOf_4cfef_32 : decode cJ1_indexOf_4cfef 32 = .ok (.iload_n 3, 1) := by decide +kernel
theorem dJ1_indexOf_4cfef_33 : decode cJ1_indexOf_4cfef 33 = .ok (.invokestatic 95, 3) := by decide +kernel
theorem dJ1_indexOf_4cfef_36 : decode cJ1_indexOf_4cfef 36 = .ok (.ireturn, 1) := by decide +kernel
theorem dJ1_indexOfChar_4cfef_0 : decode cJ1_indexOfChar_4cfef 0 = .ok (.iload_n 1, 1) := by decide +kernel
theorem dJ1_indexOfChar_4cfef_1 : decode cJ1_indexOfChar_4cfef 1 = .ok (.i2b, 1) := by decide +kernel
theorem dJ1_indexOfChar_4cfef_2 : decode cJ1_indexOfChar_4cfef 2 = .ok (.istore 4, 2) := by decide +kernel
theorem dJ1_indexOfChar_4cfef_4 : decode cJ1_indexOfChar_4cfef 4 = .ok (.iload_n 2, 1) := by decide +kernel
theorem dJ1_indexOfChar_4cfef_5 : decode cJ1_indexOfChar_4cfef 5 = .ok (.istore 5, 2) := by decide +kernel
theorem dJ1_indexOfChar_4cfef_7 : decode cJ1_indexOfChar_4cfef 7 = .ok (.iload 5, 2) := by decide +kernel
theorem dJ1_indexOfChar_4cfef_9 : decode cJ1_indexOfChar_4cfef 9 = .ok (.iload_n 3, 1) := by decide +kernel
theorem dJ1_indexOfChar_4cfef_10 : decode cJ1_indexOfChar_4cfef 10 = .ok (.if_icmp .ge 21, 3) := by decide +kernel
theorem dJ1_indexOfChar_4cfef_13 : decode cJ1_indexOfChar_4cfef 13 = .ok (.aload_n 0, 1) := by decide +kernel
theorem dJ1_indexOfChar_4cfef_14 : decode cJ1_indexOfChar_4cfef 14 = .ok (.iload 5, 2) := by decide +kernel
theorem dJ1_indexOfChar_4cfef_16 : decode cJ1_indexOfChar_4cfef 16 = .ok (.baload, 1) := by decide +kernel
theorem dJ1_indexOfChar_4cfef_17 : decode cJ1_indexOfChar_4cfef 17 = .ok (.iload 4, 2) := by decide +kernel
theorem dJ1_indexOfChar_4cfef_19 : decode cJ1_indexOfChar_4cfef 19 = .ok (.if_icmp .ne 6, 3) := by decide +kernel
theorem dJ1_indexOfChar_4cfef_22 : decode cJ1_indexOfChar_4cfef 22 = .ok (.iload 5, 2) := by decide +kernel
theorem dJ1_indexOfChar_4cfef_24 : decode cJ1_indexOfChar_4cfef 24 = .ok (.ireturn, 1) := by decide +kernel
theorem dJ1_indexOfChar_4cfef_25 : decode cJ1_indexOfChar_4cfef 25 = .ok (.iinc 5 1, 3) := by decide +kernel
theorem dJ1_indexOfChar_4cfef_28 : decode cJ1_indexOfChar_4cfef 28 = .ok (.goto (-21), 3) := by decide +kernel
theorem dJ1_indexOfChar_4cfef_31 : decode cJ1_indexOfChar_4cfef 31 = .ok (.iconst (-1), 1) := by decide +kernel
theorem dJ1_indexOfChar_4cfef_32 : decode cJ1_indexOfChar_4cfef 32 = .ok (.ireturn, 1) := by decide +kernel
theorem dJ2_getChar_3b067_0 : decode cJ2_getChar_3b067 0 = .ok (.getstatic 44, 3) := by decide +kernel
theorem dJ2_getChar_3b067_3 : decode cJ2_getChar_3b067 3 = .ok (.ifCond .ne 25, 3) := by decide +kernel
theorem dJ2_getChar_3b067_6 : decode cJ2_getChar_3b067 6 = .ok (.iload_n 1, 1) := by decide +kernel
theorem dJ2_getChar_3b067_7 : decode cJ2_getChar_3b067 7 = .ok (.ifCond .lt 11, 3) := by decide +kernel
theorem dJ2_getChar_3b067_10 : decode cJ2_getChar_3b067 10 = .ok (.iload_n 1, 1) := by decide +kernel
theorem dJ2_getChar_3b067_11 : decode cJ2_getChar_3b067 11 = .ok (.aload_n 0, 1) := by decide +kernel
theorem dJ2_getChar_3b067_12 : decode cJ2_getChar_3b067 12 = .ok (.invokestatic 48, 3) := by decide +kernel
theorem dJ2_getChar_3b067_15 : decode cJ2_getChar_3b067 15 = .ok (.if_icmp .lt 13, 3) := by decide +kernel
theorem dJ2_getChar_3b067_18 : decode cJ2_getChar_3b067 18 = .ok (.new 52, 3) := by decide +kernel
theorem dJ2_getChar_3b067_21 : decode cJ2_getChar_3b067 21 = .ok (.dup, 1) := by decide +kernel
theorem dJ2_getChar_3b067_22 : decode cJ2_getChar_3b067 22 = .ok (.ldc 54, 2) := by decide +kernel
theorem dJ2_getChar_3b067_24 : decode cJ2_getChar_3b067 24 = .ok (.invokespecial 56, 3) := by decide +kernel
theorem dJ2_getChar_3b067_27 : decode cJ2_getChar_3b067 27 = .ok (.athrow, 1) := by decide +kernel
theorem dJ2_getChar_3b067_28 : decode cJ2_getChar_3b067 28 = .ok (.iload_n 1, 1) := by decide +kernel
theorem dJ2_getChar_3b067_29 : decode cJ2_getChar_3b067 29 = .ok (.iconst 1, 1) := by decide +kernel
theorem dJ2_getChar_3b067_30 : decode cJ2_getChar_3b067 30 = .ok (.ishl, 1) := by decide +kernel
theorem dJ2_getChar_3b067_31 : decode cJ2_getChar_3b067 31 = .ok (.istore_n 1, 1) := by decide +kernel
theorem dJ2_getChar_3b067_32 : decode cJ2_getChar_3b067 32 = .ok (.aload_n 0, 1) := by decide +kernel
theorem dJ2_getChar_3b067_33 : decode cJ2_getChar_3b067 33 = .ok (.iload_n 1, 1) := by decide +kernel
theorem dJ2_getChar_3b067_34 : decode cJ2_getChar_3b067 34 = .ok (.iinc 1 1, 3) := by decide +kernel
theorem dJ2_getChar_3b067_37 : decode cJ2_getChar_3b067 37 = .ok (.baload, 1) := by decide +kernel
theorem dJ2_getChar_3b067_38 : decode cJ2_getChar_3b067 38 = .ok (.sipush 255, 3) := by decide +kernel
theorem dJ2_getChar_3b067_41 : decode cJ2_getChar_3b067 41 = .ok (.iand, 1) := by decide +kernel
theorem dJ2_getChar_3b067_42 : decode cJ2_getChar_3b067 42 = .ok (.getstatic 59, 3) := by decide +kernel
theorem dJ2_getChar_3b067_45 : decode cJ2_getChar_3b067 45 = .ok (.ishl, 1) := by decide +kernel
theorem dJ2_getChar_3b067_46 : decode cJ2_getChar_3b067 46 = .ok (.aload_n 0, 1) := by decide +kernel
theorem dJ2_getChar_3b067_47 : decode cJ2_getChar_3b067 47 = .ok (.iload_n 1, 1) := by decide +kernel
theorem dJ2_getChar_3b067_48 : decode cJ2_getChar_3b067 48 = .ok (.baload, 1) := by decide +kernel
theorem dJ2_getChar_3b067_49 : decode cJ2_getChar_3b067 49 = .ok (.sipush 255, 3) := by decide +kernel
theorem dJ2_getChar_3b067_52 : decode cJ2_getChar_3b067 52 = .ok (.iand, 1) := by decide +kernel
theorem dJ2_getChar_3b067_53 : decode cJ2_getChar_3b067 53 = .ok (.getstatic 63, 3) := by decide +kernel
theorem dJ2_getChar_3b067_56 : decode cJ2_getChar_3b067 56 = .ok (.ishl, 1) := by decide +kernel
theorem dJ2_getChar_3b067_57 : decode cJ2_getChar_3b067 57 = .ok (.ior, 1) := by decide +kernel
theorem dJ2_getChar_3b067_58 : decode cJ2_getChar_3b067 58 = .ok (.i2c, 1) := by decide +kernel
theorem dJ2_getChar_3b067_59 : decode cJ2_getChar_3b067 59 = .ok (.ireturn, 1) := by decide +kernel
theorem dJ2_length_9d52b_0 : decode cJ2_length_9d52b 0 = .ok (.aload_n 0, 1) := by decide +kernel
theorem dJ2_length_9d52b_1 : decode cJ2_length_9d52b 1 = .ok (.arraylength, 1) := by decide +kernel
theorem dJ2_length_9d52b_2 : decode cJ2_length_9d52b 2 = .ok (.iconst 1, 1) := by decide +kernel
theorem dJ2_length_9d52b_3 : decode cJ2_length_9d52b 3 = .ok (.ishr, 1) := by decide +kernel
theorem dJ2_length_9d52b_4 : decode cJ2_length_9d52b 4 = .ok (.ireturn, 1) := by decide +kernel
theorem dJ2_indexOf_4cfef_0 : decode cJ2_indexOf_4cfef 0 = .ok (.iload_n 2, 1) := by decide +kernel
theorem dJ2_indexOf_4cfef_1 : decode cJ2_indexOf_4cfef 1 = .ok (.iconst 0, 1) := by decide +kernel
theorem dJ2_indexOf_4cfef_2 : decode cJ2_indexOf_4cfef 2 = .ok (.invokestatic 224, 3) := by decide +kernel
theorem dJ2_indexOf_4cfef_5 : decode cJ2_indexOf_4cfef 5 = .ok (.istore_n 2, 1) := by decide +kernel
theorem dJ2_indexOf_4cfef_6 : decode cJ2_indexOf_4cfef 6 = .ok (.iload_n 3, 1) := by decide +kernel
theorem dJ2_indexOf_4cfef_7 : decode cJ2_indexOf_4cfef 7 = .ok (.aload_n 0, 1) := by decide +kernel
theorem dJ2_indexOf_4cfef_8 : decode cJ2_indexOf_4cfef 8 = .ok (.arraylength, 1) := by decide +kernel
theorem dJ2_indexOf_4cfef_9 : decode cJ2_indexOf_4cfef 9 = .ok (.iconst 1, 1) := by decide +kernel
theorem dJ2_indexOf_4cfef_10 : decode cJ2_indexOf_4cfef 10 = .ok (.ishr, 1) := by decide +kernel
theorem dJ2_indexOf_4cfef_11 : decode cJ2_indexOf_4cfef 11 = .ok (.invokestatic 183, 3) := by decide +kernel
theorem dJ2_indexOf_4cfef_14 : decode cJ2_indexOf_4cfef 14 = .ok (.istore_n 3, 1) := by decide +kernel
theorem dJ2_indexOf_4cfef_15 : decode cJ2_indexOf_4cfef 15 = .ok (.iload_n 2, 1) := by decide +kernel
theorem dJ2_indexOf_4cfef_16 : decode cJ2_indexOf_4cfef 16 = .ok (.iload_n 3, 1) := by decide +kernel
theorem dJ2_indexOf_4cfef_17 : decode cJ2_indexOf_4cfef 17 = .ok (.if_icmp .lt 5, 3) := by decide +kernel
theorem dJ2_indexOf_4cfef_20 : decode cJ2_indexOf_4cfef 20 = .ok (.iconst (-1), 1) := by decide +kernel
theorem dJ2_indexOf_4cfef_21 : decode cJ2_indexOf_4cfef 21 = .ok (.ireturn, 1) := by decide +kernel
theorem dJ2_indexOf_4cfef_22 : decode cJ2_indexOf_4cfef 22 = .ok (.iload_n 1, 1) := by decide +kernel
theorem dJ2_indexOf_4cfef_23 : decode cJ2_indexOf_4cfef 23 = .ok (.ldc 227, 2) := by decide +kernel
theorem dJ2_indexOf_4cfef_25 : decode cJ2_indexOf_4cfef 25 = .ok (.if_icmp .ge 11, 3) := by decide +kernel
theorem dJ2_indexOf_4cfef_28 : decode cJ2_indexOf_4cfef 28 = .ok (.aload_n 0, 1) := by decide +kernel
theorem dJ2_indexOf_4cfef_29 : decode cJ2_indexOf_4cfef 29 = .ok (.iload_n 1, 1) := by decide +kernel
theorem dJ2_indexOf_4cfef_30 : decode cJ2_indexOf_4cfef 30 = .ok (.iload_n 2, 1) := by decide +kernel
theorem dJ2_indexOf_4cfef_31 : decode cJ2_indexOf_4cfef 31 = .ok (.iload_n 3, 1) := by decide +kernel
theorem dJ2_indexOf_4cfef_32 : decode cJ2_indexOf_4cfef 32 = .ok (.invokestatic 228, 3) := by decide +kernel
theorem dJ2_indexOf_4cfef_35 : decode cJ2_indexOf_4cfef 35 = .ok (.ireturn, 1) := by decide +kernel
theorem dJ2_indexOf_4cfef_36 : decode cJ2_indexOf_4cfef 36 = .ok (.aload_n 0, 1) := by decide +kernel
theorem dJ2_indexOf_4cfef_37 : decode cJ2_indexOf_4cfef 37 = .ok (.iload_n 1, 1) := by decide +kernel
theorem dJ2_indexOf_4cfef_38 : decode cJ2_indexOf_4cfef 38 = .ok (.iload_n 2, 1) := by decide +kernel
theorem dJ2_indexOf_4cfef_39 : decode cJ2_indexOf_4cfef 39 = .ok (.iload_n 3, 1) := by decide +kernel
theorem dJ2_indexOf_4cfef_40 : decode cJ2_indexOf_4cfef 40 = .ok (.invokestatic 232, 3) := by decide +kernel
theorem dJ2_indexOf_4cfef_43 : decode cJ2_indexOf_4cfef 43 = .ok (.ireturn, 1) := by decide +kernel
theorem dJ2_indexOfChar_4cfef_0 : decode cJ2_indexOfChar_4cfef 0 = .ok (.iload_n 2, 1) := by decide +kernel
theorem dJ2_indexOfChar_4cfef_1 : decode cJ2_indexOfChar_4cfef 1 = .ok (.iload_n 3, 1) := by decide +kernel
theorem dJ2_indexOfChar_4cfef_2 : decode cJ2_indexOfChar_4cfef 2 = .ok (.aload_n 0, 1) := by decide +kernel
theorem dJ2_indexOfChar_4cfef_3 : decode cJ2_indexOfChar_4cfef 3 = .ok (.invokestatic 96, 3) := by decide +kernel
theorem dJ2_indexOfChar_4cfef_6 : decode cJ2_indexOfChar_4cfef 6 = .ok (.aload_n 0, 1) := by decide +kernel
theorem dJ2_indexOfChar_4cfef_7 : decode cJ2_indexOfChar_4cfef 7 = .ok (.iload_n 1, 1) := by decide +kernel
theorem dJ2_indexOfChar_4cfef_8 : decode cJ2_indexOfChar_4cfef 8 = .ok (.iload_n 2, 1) := by decide +kernel
theorem dJ2_indexOfChar_4cfef_9 : decode cJ2_indexOfChar_4cfef 9 = .ok (.iload_n 3, 1) := by decide +kernel
theorem dJ2_indexOfChar_4cfef_10 : decode cJ2_indexOfChar_4cfef 10 = .ok (.invokestatic 244, 3) := by decide +kernel
theorem dJ2_indexOfChar_4cfef_13 : decode cJ2_indexOfChar_4cfef 13 = .ok (.ireturn, 1) := by decide +kernel
theorem dJ2_indexOfCharUnsafe_4cfef_0 : decode cJ2_indexOfCharUnsafe_4cfef 0 = .ok (.iload_n 2, 1) := by decide +kernel
theorem dJ2_indexOfCharUnsafe_4cfef_1 : decode cJ2_indexOfCharUnsafe_4cfef 1 = .ok (.istore 4, 2) := by decide +kernel
theorem dJ2_indexOfCharUnsafe_4cfef_3 : decode cJ2_indexOfCharUnsafe_4cfef 3 = .ok (.iload 4, 2) := by decide +kernel
theorem dJ2_indexOfCharUnsafe_4cfef_5 : decode cJ2_indexOfCharUnsafe_4cfef 5 = .ok (.iload_n 3, 1) := by decide +kernel
theorem dJ2_indexOfCharUnsafe_4cfef_6 : decode cJ2_indexOfCharUnsafe_4cfef 6 = .ok (.if_icmp .ge 22, 3) := by decide +kernel
theorem dJ2_indexOfCharUnsafe_4cfef_9 : decode cJ2_indexOfCharUnsafe_4cfef 9 = .ok (.aload_n 0, 1) := by decide +kernel
theorem dJ2_indexOfCharUnsafe_4cfef_10 : decode cJ2_indexOfCharUnsafe_4cfef 10 = .ok (.iload 4, 2) := by decide +kernel
theorem dJ2_indexOfCharUnsafe_4cfef_12 : decode cJ2_indexOfCharUnsafe_4cfef 12 = .ok (.invokestatic 71, 3) := by decide +kernel
theorem dJ2_indexOfCharUnsafe_4cfef_15 : decode cJ2_indexOfCharUnsafe_4cfef 15 = .ok (.iload_n 1, 1) := by decide +kernel
theorem dJ2_indexOfCharUnsafe_4cfef_16 : decode cJ2_indexOfCharUnsafe_4cfef 16 = .ok (.if_icmp .ne 6, 3) := by decide +kernel
theorem dJ2_indexOfCharUnsafe_4cfef_19 : decode cJ2_indexOfCharUnsafe_4cfef 19 = .ok (.iload 4, 2) := by decide +kernel
theorem dJ2_indexOfCharUnsafe_4cfef_21 : decode cJ2_indexOfCharUnsafe_4cfef 21 = .ok (.ireturn, 1) := by decide +kernel
theorem dJ2_indexOfCharUnsafe_4cfef_22 : decode cJ2_indexOfCharUnsafe_4cfef 22 = .ok (.iinc 4 1, 3) := by decide +kernel
theorem dJ2_indexOfCharUnsafe_4cfef_25 : decode cJ2_indexOfCharUnsafe_4cfef 25 = .ok (.goto (-22), 3) := by decide +kernel
theorem dJ2_indexOfCharUnsafe_4cfef_28 : decode cJ2_indexOfCharUnsafe_4cfef 28 = .ok (.iconst (-1), 1) := by decide +kernel
theorem dJ2_indexOfCharUnsafe_4cfef_29 : decode cJ2_indexOfCharUnsafe_4cfef 29 = .ok (.ireturn, 1) := by decide +kernel
theorem dJ2_indexOfSupplementary_4cfef_0 : decode cJ2_indexOfSupplementary_4cfef 0 = .ok (.iload_n 1, 1) := by decide +kernel
theorem dJ2_indexOfSupplementary_4cfef_1 : decode cJ2_indexOfSupplementary_4cfef 1 = .ok (.invokestatic 164, 3) := by decide +kernel
theorem dJ2_indexOfSupplementary_4cfef_4 : decode cJ2_indexOfSupplementary_4cfef 4 = .ok (.ifCond .eq 65, 3) := by decide +kernel
theorem dJ2_indexOfSupplementary_4cfef_7 : decode cJ2_indexOfSupplementary_4cfef 7 = .ok (.iload_n 1, 1) := by decide +kernel
theorem dJ2_indexOfSupplementary_4cfef_8 : decode cJ2_indexOfSupplementary_4cfef 8 = .ok (.invokestatic 157, 3) := by decide +kernel
theorem dJ2_indexOfSupplementary_4cfef_11 : decode cJ2_indexOfSupplementary_4cfef 11 = .ok (.istore 4, 2) := by decide +kernel
theorem dJ2_indexOfSupplementary_4cfef_13 : decode cJ2_indexOfSupplementary_4cfef 13 = .ok (.iload_n 1, 1) := by decide +kernel
theorem dJ2_indexOfSupplementary_4cfef_14 : decode cJ2_indexOfSupplementary_4cfef 14 = .ok (.invokestatic 161, 3) := by decide +kernel
theorem dJ2_indexOfSupplementary_4cfef_17 : decode cJ2_indexOfSupplementary_4cfef 17 = .ok (.istore 5, 2) := by decide +kernel
theorem dJ2_indexOfSupplementary_4cfef_19 : decode cJ2_indexOfSupplementary_4cfef 19 = .ok (.iload_n 2, 1) := by decide +kernel
theorem dJ2_indexOfSupplementary_4cfef_20 : decode cJ2_indexOfSupplementary_4cfef 20 = .ok (.iload_n 3, 1) := by decide +kernel
theorem dJ2_indexOfSupplementary_4cfef_21 : decode cJ2_indexOfSupplementary_4cfef 21 = .ok (.aload_n 0, 1) := by decide +kernel
theorem dJ2_indexOfSupplementary_4cfef_22 : decode cJ2_indexOfSupplementary_4cfef 22 = .ok (.invokestatic 96, 3) := by decide +kernel
theorem dJ2_indexOfSupplementary_4cfef_25 : decode cJ2_indexOfSupplementary_4cfef 25 = .ok (.iload_n 2, 1) := by decide +kernel
theorem dJ2_indexOfSupplementary_4cfef_26 : decode cJ2_indexOfSupplementary_4cfef 26 = .ok (.istore 6, 2) := by decide +kernel
theorem dJ2_indexOfSupplementary_4cfef_28 : decode cJ2_indexOfSupplementary_4cfef 28 = .ok (.iload 6, 2) := by decide +kernel
theorem dJ2_indexOfSupplementary_4cfef_30 : decode cJ2_indexOfSupplementary_4cfef 30 = .ok (.iload_n 3, 1) := by decide +kernel
theorem dJ2_indexOfSupplementary_4cfef_31 : decode cJ2_indexOfSupplementary_4cfef 31 = .ok (.iconst 1, 1) := by decide +kernel
theorem dJ2_indexOfSupplementary_4cfef_32 : decode cJ2_indexOfSupplementary_4cfef 32 = .ok (.isub, 1) := by decide +kernel
theorem dJ2_indexOfSupplementary_4cfef_33 : decode cJ2_indexOfSupplementary_4cfef 33 = .ok (.if_icmp .ge 36, 3) := by decide +kernel
theorem dJ2_indexOfSupplementary_4cfef_36 : decode cJ2_indexOfSupplementary_4cfef 36 = .ok (.aload_n 0, 1) := by decide +kernel
theorem dJ2_indexOfSupplementary_4cfef_37 : decode cJ2_indexOfSupplementary_4cfef 37 = .ok (.iload 6, 2) := by decide +kernel
theorem dJ2_indexOfSupplementary_4cfef_39 : decode cJ2_indexOfSupplementary_4cfef 39 = .ok (.invokestatic 71, 3) := by decide +kernel
theorem dJ2_indexOfSupplementary_4cfef_42 : decode cJ2_indexOfSupplementary_4cfef 42 = .ok (.iload 4, 2) := by decide +kernel
theorem dJ2_indexOfSupplementary_4cfef_44 : decode cJ2_indexOfSupplementary_4cfef 44 = .ok (.if_icmp .ne 19, 3) := by decide +kernel
theorem dJ2_indexOfSupplementary_4cfef_47 : decode cJ2_indexOfSupplementary_4cfef 47 = .ok (.aload_n 0, 1) := by decide +kernel
theorem dJ2_indexOfSupplementary_4cfef_48 : decode cJ2_indexOfSupplementary_4cfef 48 = .ok (.iload 6, 2) := by decide +kernel
theorem dJ2_indexOfSupplementary_4cfef_50 : decode cJ2_indexOfSupplementary_4cfef 50 = .ok (.iconst 1, 1) := by decide +kernel
theorem dJ2_indexOfSupplementary_4cfef_51 : decode cJ2_indexOfSupplementary_4cfef 51 = .ok (.iadd, 1) := by decide +kernel
theorem dJ2_indexOfSupplementary_4cfef_52 : decode cJ2_indexOfSupplementary_4cfef 52 = .ok (.invokestatic 71, 3) := by decide +kernel
theorem dJ2_indexOfSupplementary_4cfef_55 : decode cJ2_indexOfSupplementary_4cfef 55 = .ok (.iload 5, 2) := by decide +kernel
theorem dJ2_indexOfSupplementary_4cfef_57 : decode cJ2_indexOfSupplementary_4cfef 57 = .ok (.if_icmp .ne 6, 3) := by decide +kernel
theorem dJ2_indexOfSupplementary_4cfef_60 : decode cJ2_indexOfSupplementary_4cfef 60 = .ok (.iload 6, 2) := by decide +kernel
theorem dJ2_indexOfSupplementary_4cfef_62 : decode cJ2_indexOfSupplementary_4cfef 62 = .ok (.ireturn, 1) := by decide +kernel
theorem dJ2_indexOfSupplementary_4cfef_63 : decode cJ2_indexOfSupplementary_4cfef 63 = .ok (.iinc 6 1, 3) := by decide +kernel
theorem dJ2_indexOfSupplementary_4cfef_66 : decode cJ2_indexOfSupplementary_4cfef 66 = .ok (.goto (-38), 3) := by decide +kernel
theorem dJ2_indexOfSupplementary_4cfef_69 : decode cJ2_indexOfSupplementary_4cfef 69 = .ok (.iconst (-1), 1) := by decide +kernel
theorem dJ2_indexOfSupplementary_4cfef_70 : decode cJ2_indexOfSupplementary_4cfef 70 = .ok (.ireturn, 1) := by decide +kernel
theorem dJ2_checkBoundsBeginEnd_d044e_0 : decode cJ2_checkBoundsBeginEnd_d044e 0 = .ok (.iload_n 0, 1) := by decide +kernel
theorem dJ2_checkBoundsBeginEnd_d044e_1 : decode cJ2_checkBoundsBeginEnd_d044e 1 = .ok (.iload_n 1, 1) := by decide +kernel
theorem dJ2_checkBoundsBeginEnd_d044e_2 : decode cJ2_checkBoundsBeginEnd_d044e 2 = .ok (.aload_n 2, 1) := by decide +kernel
theorem dJ2_checkBoundsBeginEnd_d044e_3 : decode cJ2_checkBoundsBeginEnd_d044e 3 = .ok (.invokestatic 48, 3) := by decide +kernel
theorem dJ2_checkBoundsBeginEnd_d044e_6 : decode cJ2_checkBoundsBeginEnd_d044e 6 = .ok (.invokestatic 241, 3) := by decide +kernel
theorem dJ2_checkBoundsBeginEnd_d044e_9 : decode cJ2_checkBoundsBeginEnd_d044e 9 = .ok (.return_, 1) := by decide +kernel
theorem dJ7_fill_d0a16_0 : decode cJ7_fill_d0a16 0 = .ok (.iconst 0, 1) := by decide +kernel
theorem dJ7_fill_d0a16_1 : decode cJ7_fill_d0a16 1 = .ok (.istore_n 3, 1) := by decide +kernel
theorem dJ7_fill_d0a16_2 : decode cJ7_fill_d0a16 2 = .ok (.aload_n 0, 1) := by decide +kernel
theorem dJ7_fill_d0a16_3 : decode cJ7_fill_d0a16 3 = .ok (.arraylength, 1) := by decide +kernel
theorem dJ7_fill_d0a16_4 : decode cJ7_fill_d0a16 4 = .ok (.istore 4, 2) := by decide +kernel
theorem dJ7_fill_d0a16_6 : decode cJ7_fill_d0a16 6 = .ok (.iload_n 3, 1) := by decide +kernel
theorem dJ7_fill_d0a16_7 : decode cJ7_fill_d0a16 7 = .ok (.iload 4, 2) := by decide +kernel
theorem dJ7_fill_d0a16_9 : decode cJ7_fill_d0a16 9 = .ok (.if_icmp .ge 13, 3) := by decide +kernel
theorem dJ7_fill_d0a16_12 : decode cJ7_fill_d0a16 12 = .ok (.aload_n 0, 1) := by decide +kernel
theorem dJ7_fill_d0a16_13 : decode cJ7_fill_d0a16 13 = .ok (.iload_n 3, 1) := by decide +kernel
theorem dJ7_fill_d0a16_14 : decode cJ7_fill_d0a16 14 = .ok (.lload_n 1, 1) := by decide +kernel
theorem dJ7_fill_d0a16_15 : decode cJ7_fill_d0a16 15 = .ok (.lastore, 1) := by decide +kernel
theorem dJ7_fill_d0a16_16 : decode cJ7_fill_d0a16 16 = .ok (.iinc 3 1, 3) := by decide +kernel
theorem dJ7_fill_d0a16_19 : decode cJ7_fill_d0a16 19 = .ok (.goto (-13), 3) := by decide +kernel
theorem dJ7_fill_d0a16_22 : decode cJ7_fill_d0a16 22 = .ok (.return_, 1) := by decide +kernel
theorem dJ7_fill_53178_0 : decode cJ7_fill_53178 0 = .ok (.iconst 0, 1) := by decide +kernel
theorem dJ7_fill_53178_1 : decode cJ7_fill_53178 1 = .ok (.istore_n 2, 1) := by decide +kernel
theorem dJ7_fill_53178_2 : decode cJ7_fill_53178 2 = .ok (.aload_n 0, 1) := by decide +kernel
theorem dJ7_fill_53178_3 : decode cJ7_fill_53178 3 = .ok (.arraylength, 1) := by decide +kernel
theorem dJ7_fill_53178_4 : decode cJ7_fill_53178 4 = .ok (.istore_n 3, 1) := by decide +kernel
theorem dJ7_fill_53178_5 : decode cJ7_fill_53178 5 = .ok (.iload_n 2, 1) := by decide +kernel
theorem dJ7_fill_53178_6 : decode cJ7_fill_53178 6 = .ok (.iload_n 3, 1) := by decide +kernel
theorem dJ7_fill_53178_7 : decode cJ7_fill_53178 7 = .ok (.if_icmp .ge 13, 3) := by decide +kernel
theorem dJ7_fill_53178_10 : decode cJ7_fill_53178 10 = .ok (.aload_n 0, 1) := by decide +kernel
theorem dJ7_fill_53178_11 : decode cJ7_fill_53178 11 = .ok (.iload_n 2, 1) := by decide +kernel
theorem dJ7_fill_53178_12 : decode cJ7_fill_53178 12 = .ok (.iload_n 1, 1) := by decide +kernel
theorem dJ7_fill_53178_13 : decode cJ7_fill_53178 13 = .ok (.iastore, 1) := by decide +kernel
theorem dJ7_fill_53178_14 : decode cJ7_fill_53178 14 = .ok (.iinc 2 1, 3) := by decide +kernel
theorem dJ7_fill_53178_17 : decode cJ7_fill_53178 17 = .ok (.goto (-12), 3) := by decide +kernel
theorem dJ7_fill_53178_20 : decode cJ7_fill_53178 20 = .ok (.return_, 1) := by decide +kernel
theorem dJ3_checkFromToIndex_8c36e_0 : decode cJ3_checkFromToIndex_8c36e 0 = .ok (.iload_n 0, 1) := by decide +kernel
theorem dJ3_checkFromToIndex_8c36e_1 : decode cJ3_checkFromToIndex_8c36e 1 = .ok (.ifCond .lt 13, 3) := by decide +kernel
theorem dJ3_checkFromToIndex_8c36e_4 : decode cJ3_checkFromToIndex_8c36e 4 = .ok (.iload_n 0, 1) := by decide +kernel
theorem dJ3_checkFromToIndex_8c36e_5 : decode cJ3_checkFromToIndex_8c36e 5 = .ok (.iload_n 1, 1) := by decide +kernel
theorem dJ3_checkFromToIndex_8c36e_6 : decode cJ3_checkFromToIndex_8c36e 6 = .ok (.if_icmp .gt 8, 3) := by decide +kernel
theorem dJ3_checkFromToIndex_8c36e_9 : decode cJ3_checkFromToIndex_8c36e 9 = .ok (.iload_n 1, 1) := by decide +kernel
theorem dJ3_checkFromToIndex_8c36e_10 : decode cJ3_checkFromToIndex_8c36e 10 = .ok (.iload_n 2, 1) := by decide +kernel
theorem dJ3_checkFromToIndex_8c36e_11 : decode cJ3_checkFromToIndex_8c36e 11 = .ok (.if_icmp .le 11, 3) := by decide +kernel
theorem dJ3_checkFromToIndex_8c36e_14 : decode cJ3_checkFromToIndex_8c36e 14 = .ok (.aload_n 3, 1) := by decide +kernel
theorem dJ3_checkFromToIndex_8c36e_15 : decode cJ3_checkFromToIndex_8c36e 15 = .ok (.iload_n 0, 1) := by decide +kernel
theorem dJ3_checkFromToIndex_8c36e_16 : decode cJ3_checkFromToIndex_8c36e 16 = .ok (.iload_n 1, 1) := by decide +kernel
theorem dJ3_checkFromToIndex_8c36e_17 : decode cJ3_checkFromToIndex_8c36e 17 = .ok (.iload_n 2, 1) := by decide +kernel
theorem dJ3_checkFromToIndex_8c36e_18 : decode cJ3_checkFromToIndex_8c36e 18 = .ok (.invokestatic 99, 3) := by decide +kernel
theorem dJ3_checkFromToIndex_8c36e_21 : decode cJ3_checkFromToIndex_8c36e 21 = .ok (.athrow, 1) := by decide +kernel
theorem dJ3_checkFromToIndex_8c36e_22 : decode cJ3_checkFromToIndex_8c36e 22 = .ok (.iload_n 0, 1) := by decide +kernel
theorem dJ3_checkFromToIndex_8c36e_23 : decode cJ3_checkFromToIndex_8c36e 23 = .ok (.ireturn, 1) := by decide +kernel
