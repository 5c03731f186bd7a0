theorem d_Ct_init_0 : decode b_Ct_init 0 = .ok (.aload_n 0, 1) := by decide +kernel
theorem d_Ct_init_1 : decode b_Ct_init 1 = .ok (.invokespecial 1, 3) := by decide +kernel
theorem d_Ct_init_4 : decode b_Ct_init 4 = .ok (.aload_n 0, 1) := by decide +kernel
theorem d_Ct_init_5 : decode b_Ct_init 5 = .ok (.new 7, 3) := by decide +kernel
theorem d_Ct_init_8 : decode b_Ct_init 8 = .ok (.dup, 1) := by decide +kernel
theorem d_Ct_init_9 : decode b_Ct_init 9 = .ok (.invokespecial 9, 3) := by decide +kernel
theorem d_Ct_init_12 : decode b_Ct_init 12 = .ok (.putfield 10, 3) := by decide +kernel
theorem d_Ct_init_15 : decode b_Ct_init 15 = .ok (.aload_n 0, 1) := by decide +kernel
theorem d_Ct_init_16 : decode b_Ct_init 16 = .ok (.bipush 40, 2) := by decide +kernel
theorem d_Ct_init_18 : decode b_Ct_init 18 = .ok (.anewarray 16, 3) := by decide +kernel
theorem d_Ct_init_21 : decode b_Ct_init 21 = .ok (.putfield 18, 3) := by decide +kernel
theorem d_Ct_init_24 : decode b_Ct_init 24 = .ok (.aload_n 0, 1) := by decide +kernel
theorem d_Ct_init_25 : decode b_Ct_init 25 = .ok (.bipush 40, 2) := by decide +kernel
theorem d_Ct_init_27 : decode b_Ct_init 27 = .ok (.anewarray 16, 3) := by decide +kernel
theorem d_Ct_init_30 : decode b_Ct_init 30 = .ok (.putfield 22, 3) := by decide +kernel
theorem d_Ct_init_33 : decode b_Ct_init 33 = .ok (.aload_n 0, 1) := by decide +kernel
theorem d_Ct_init_34 : decode b_Ct_init 34 = .ok (.bipush 8, 2) := by decide +kernel
theorem d_Ct_init_36 : decode b_Ct_init 36 = .ok (.anewarray 25, 3) := by decide +kernel
theorem d_Ct_init_39 : decode b_Ct_init 39 = .ok (.putfield 27, 3) := by decide +kernel
theorem d_Ct_init_42 : decode b_Ct_init 42 = .ok (.aload_n 0, 1) := by decide +kernel
theorem d_Ct_init_43 : decode b_Ct_init 43 = .ok (.iconst 5, 1) := by decide +kernel
theorem d_Ct_init_44 : decode b_Ct_init 44 = .ok (.newarray .int, 2) := by decide +kernel
theorem d_Ct_init_46 : decode b_Ct_init 46 = .ok (.putfield 31, 3) := by decide +kernel
theorem d_Ct_init_49 : decode b_Ct_init 49 = .ok (.aload_n 0, 1) := by decide +kernel
theorem d_Ct_init_50 : decode b_Ct_init 50 = .ok (.new 35, 3) := by decide +kernel
theorem d_Ct_init_53 : decode b_Ct_init 53 = .ok (.dup, 1) := by decide +kernel
theorem d_Ct_init_54 : decode b_Ct_init 54 = .ok (.invokespecial 37, 3) := by decide +kernel
theorem d_Ct_init_57 : decode b_Ct_init 57 = .ok (.putfield 38, 3) := by decide +kernel
theorem d_Ct_init_60 : decode b_Ct_init 60 = .ok (.aload_n 0, 1) := by decide +kernel
theorem d_Ct_init_61 : decode b_Ct_init 61 = .ok (.new 42, 3) := by decide +kernel
theorem d_Ct_init_64 : decode b_Ct_init 64 = .ok (.dup, 1) := by decide +kernel
theorem d_Ct_init_65 : decode b_Ct_init 65 = .ok (.invokespecial 44, 3) := by decide +kernel
theorem d_Ct_init_68 : decode b_Ct_init 68 = .ok (.putfield 45, 3) := by decide +kernel
theorem d_Ct_init_71 : decode b_Ct_init 71 = .ok (.aload_n 0, 1) := by decide +kernel
theorem d_Ct_init_72 : decode b_Ct_init 72 = .ok (.iconst 0, 1) := by decide +kernel
theorem d_Ct_init_73 : decode b_Ct_init 73 = .ok (.putfield 49, 3) := by decide +kernel
theorem d_Ct_init_76 : decode b_Ct_init 76 = .ok (.aload_n 0, 1) := by decide +kernel
theorem d_Ct_init_77 : decode b_Ct_init 77 = .ok (.iconst 0, 1) := by decide +kernel
theorem d_Ct_init_78 : decode b_Ct_init 78 = .ok (.putfield 53, 3) := by decide +kernel
theorem d_Ct_init_81 : decode b_Ct_init 81 = .ok (.aload_n 0, 1) := by decide +kernel
theorem d_Ct_init_82 : decode b_Ct_init 82 = .ok (.iconst 0, 1) := by decide +kernel
theorem d_Ct_init_83 : decode b_Ct_init 83 = .ok (.iload_n 1, 1) := by decide +kernel
theorem d_Ct_init_84 : decode b_Ct_init 84 = .ok (.sipush 1000, 3) := by decide +kernel
theorem d_Ct_init_87 : decode b_Ct_init 87 = .ok (.invokestatic 56, 3) := by decide +kernel
theorem d_Ct_init_90 : decode b_Ct_init 90 = .ok (.invokestatic 62, 3) := by decide +kernel
theorem d_Ct_init_93 : decode b_Ct_init 93 = .ok (.putfield 65, 3) := by decide +kernel
theorem d_Ct_init_96 : decode b_Ct_init 96 = .ok (.return_, 1) := by decide +kernel
theorem d_Ct_place_0 : decode b_Ct_place 0 = .ok (.iload_n 1, 1) := by decide +kernel
theorem d_Ct_place_1 : decode b_Ct_place 1 = .ok (.iconst 0, 1) := by decide +kernel
theorem d_Ct_place_2 : decode b_Ct_place 2 = .ok (.bipush 30, 2) := by decide +kernel
theorem d_Ct_place_4 : decode b_Ct_place 4 = .ok (.invokestatic 68, 3) := by decide +kernel
theorem d_Ct_place_7 : decode b_Ct_place 7 = .ok (.ifCond .eq 11, 3) := by decide +kernel
theorem d_Ct_place_10 : decode b_Ct_place 10 = .ok (.iload_n 2, 1) := by decide +kernel
theorem d_Ct_place_11 : decode b_Ct_place 11 = .ok (.iload_n 3, 1) := by decide +kernel
theorem d_Ct_place_12 : decode b_Ct_place 12 = .ok (.invokestatic 72, 3) := by decide +kernel
theorem d_Ct_place_15 : decode b_Ct_place 15 = .ok (.ifCond .ne 13, 3) := by decide +kernel
theorem d_Ct_place_18 : decode b_Ct_place 18 = .ok (.new 76, 3) := by decide +kernel
theorem d_Ct_place_21 : decode b_Ct_place 21 = .ok (.dup, 1) := by decide +kernel
theorem d_Ct_place_22 : decode b_Ct_place 22 = .ok (.ldc 78, 2) := by decide +kernel
theorem d_Ct_place_24 : decode b_Ct_place 24 = .ok (.invokespecial 80, 3) := by decide +kernel
theorem d_Ct_place_27 : decode b_Ct_place 27 = .ok (.athrow, 1) := by decide +kernel
theorem d_Ct_place_28 : decode b_Ct_place 28 = .ok (.aload_n 0, 1) := by decide +kernel
theorem d_Ct_place_29 : decode b_Ct_place 29 = .ok (.getfield 10, 3) := by decide +kernel
theorem d_Ct_place_32 : decode b_Ct_place 32 = .ok (.getfield 83, 3) := by decide +kernel
theorem d_Ct_place_35 : decode b_Ct_place 35 = .ok (.bipush 30, 2) := by decide +kernel
theorem d_Ct_place_37 : decode b_Ct_place 37 = .ok (.if_icmp .lt 13, 3) := by decide +kernel
theorem d_Ct_place_40 : decode b_Ct_place 40 = .ok (.new 86, 3) := by decide +kernel
theorem d_Ct_place_43 : decode b_Ct_place 43 = .ok (.dup, 1) := by decide +kernel
theorem d_Ct_place_44 : decode b_Ct_place 44 = .ok (.ldc 88, 2) := by decide +kernel
theorem d_Ct_place_46 : decode b_Ct_place 46 = .ok (.invokespecial 90, 3) := by decide +kernel
theorem d_Ct_place_49 : decode b_Ct_place 49 = .ok (.athrow, 1) := by decide +kernel
theorem d_Ct_place_50 : decode b_Ct_place 50 = .ok (.aload_n 0, 1) := by decide +kernel
theorem d_Ct_place_51 : decode b_Ct_place 51 = .ok (.getfield 45, 3) := by decide +kernel
theorem d_Ct_place_54 : decode b_Ct_place 54 = .ok (.invokevirtual 91, 3) := by decide +kernel
theorem d_Ct_place_57 : decode b_Ct_place 57 = .ok (.aload_n 0, 1) := by decide +kernel
theorem d_Ct_place_58 : decode b_Ct_place 58 = .ok (.getfield 10, 3) := by decide +kernel
theorem d_Ct_place_61 : decode b_Ct_place 61 = .ok (.new 94, 3) := by decide +kernel
theorem d_Ct_place_64 : decode b_Ct_place 64 = .ok (.dup, 1) := by decide +kernel
theorem d_Ct_place_65 : decode b_Ct_place 65 = .ok (.iload_n 1, 1) := by decide +kernel
theorem d_Ct_place_66 : decode b_Ct_place 66 = .ok (.iload_n 2, 1) := by decide +kernel
theorem d_Ct_place_67 : decode b_Ct_place 67 = .ok (.iload_n 3, 1) := by decide +kernel
theorem d_Ct_place_68 : decode b_Ct_place 68 = .ok (.invokespecial 96, 3) := by decide +kernel
theorem d_Ct_place_71 : decode b_Ct_place 71 = .ok (.invokevirtual 99, 3) := by decide +kernel
theorem d_Ct_place_74 : decode b_Ct_place 74 = .ok (.ireturn, 1) := by decide +kernel
theorem d_Ct_lift_0 : decode b_Ct_lift 0 = .ok (.iload_n 1, 1) := by decide +kernel
theorem d_Ct_lift_1 : decode b_Ct_lift 1 = .ok (.iload_n 2, 1) := by decide +kernel
theorem d_Ct_lift_2 : decode b_Ct_lift 2 = .ok (.invokestatic 72, 3) := by decide +kernel
theorem d_Ct_lift_5 : decode b_Ct_lift 5 = .ok (.ifCond .eq 24, 3) := by decide +kernel
theorem d_Ct_lift_8 : decode b_Ct_lift 8 = .ok (.iload 4, 2) := by decide +kernel
theorem d_Ct_lift_10 : decode b_Ct_lift 10 = .ok (.iconst 0, 1) := by decide +kernel
theorem d_Ct_lift_11 : decode b_Ct_lift 11 = .ok (.bipush 30, 2) := by decide +kernel
theorem d_Ct_lift_13 : decode b_Ct_lift 13 = .ok (.invokestatic 68, 3) := by decide +kernel
theorem d_Ct_lift_16 : decode b_Ct_lift 16 = .ok (.ifCond .eq 13, 3) := by decide +kernel
theorem d_Ct_lift_19 : decode b_Ct_lift 19 = .ok (.iload_n 3, 1) := by decide +kernel
theorem d_Ct_lift_20 : decode b_Ct_lift 20 = .ok (.iconst 0, 1) := by decide +kernel
theorem d_Ct_lift_21 : decode b_Ct_lift 21 = .ok (.iload 4, 2) := by decide +kernel
theorem d_Ct_lift_23 : decode b_Ct_lift 23 = .ok (.invokestatic 68, 3) := by decide +kernel
theorem d_Ct_lift_26 : decode b_Ct_lift 26 = .ok (.ifCond .ne 13, 3) := by decide +kernel
theorem d_Ct_lift_29 : decode b_Ct_lift 29 = .ok (.new 76, 3) := by decide +kernel
theorem d_Ct_lift_32 : decode b_Ct_lift 32 = .ok (.dup, 1) := by decide +kernel
theorem d_Ct_lift_33 : decode b_Ct_lift 33 = .ok (.ldc 103, 2) := by decide +kernel
theorem d_Ct_lift_35 : decode b_Ct_lift 35 = .ok (.invokespecial 80, 3) := by decide +kernel
theorem d_Ct_lift_38 : decode b_Ct_lift 38 = .ok (.athrow, 1) := by decide +kernel
theorem d_Ct_lift_39 : decode b_Ct_lift 39 = .ok (.iload 5, 2) := by decide +kernel
theorem d_Ct_lift_41 : decode b_Ct_lift 41 = .ok (.iconst 0, 1) := by decide +kernel
theorem d_Ct_lift_42 : decode b_Ct_lift 42 = .ok (.bipush 100, 2) := by decide +kernel
theorem d_Ct_lift_44 : decode b_Ct_lift 44 = .ok (.invokestatic 68, 3) := by decide +kernel
theorem d_Ct_lift_47 : decode b_Ct_lift 47 = .ok (.ifCond .eq 14, 3) := by decide +kernel
theorem d_Ct_lift_50 : decode b_Ct_lift 50 = .ok (.iload 6, 2) := by decide +kernel
theorem d_Ct_lift_52 : decode b_Ct_lift 52 = .ok (.iconst 0, 1) := by decide +kernel
theorem d_Ct_lift_53 : decode b_Ct_lift 53 = .ok (.bipush 100, 2) := by decide +kernel
theorem d_Ct_lift_55 : decode b_Ct_lift 55 = .ok (.invokestatic 68, 3) := by decide +kernel
theorem d_Ct_lift_58 : decode b_Ct_lift 58 = .ok (.ifCond .ne 13, 3) := by decide +kernel
theorem d_Ct_lift_61 : decode b_Ct_lift 61 = .ok (.new 76, 3) := by decide +kernel
theorem d_Ct_lift_64 : decode b_Ct_lift 64 = .ok (.dup, 1) := by decide +kernel
theorem d_Ct_lift_65 : decode b_Ct_lift 65 = .ok (.ldc 105, 2) := by decide +kernel
theorem d_Ct_lift_67 : decode b_Ct_lift 67 = .ok (.invokespecial 80, 3) := by decide +kernel
theorem d_Ct_lift_70 : decode b_Ct_lift 70 = .ok (.athrow, 1) := by decide +kernel
theorem d_Ct_lift_71 : decode b_Ct_lift 71 = .ok (.aload_n 0, 1) := by decide +kernel
theorem d_Ct_lift_72 : decode b_Ct_lift 72 = .ok (.getfield 10, 3) := by decide +kernel
theorem d_Ct_lift_75 : decode b_Ct_lift 75 = .ok (.getfield 107, 3) := by decide +kernel
theorem d_Ct_lift_78 : decode b_Ct_lift 78 = .ok (.bipush 6, 2) := by decide +kernel
theorem d_Ct_lift_80 : decode b_Ct_lift 80 = .ok (.if_icmp .lt 13, 3) := by decide +kernel
theorem d_Ct_lift_83 : decode b_Ct_lift 83 = .ok (.new 86, 3) := by decide +kernel
theorem d_Ct_lift_86 : decode b_Ct_lift 86 = .ok (.dup, 1) := by decide +kernel
theorem d_Ct_lift_87 : decode b_Ct_lift 87 = .ok (.ldc 110, 2) := by decide +kernel
theorem d_Ct_lift_89 : decode b_Ct_lift 89 = .ok (.invokespecial 90, 3) := by decide +kernel
theorem d_Ct_lift_92 : decode b_Ct_lift 92 = .ok (.athrow, 1) := by decide +kernel
theorem d_Ct_lift_93 : decode b_Ct_lift 93 = .ok (.aload_n 0, 1) := by decide +kernel
theorem d_Ct_lift_94 : decode b_Ct_lift 94 = .ok (.getfield 45, 3) := by decide +kernel
theorem d_Ct_lift_97 : decode b_Ct_lift 97 = .ok (.invokevirtual 91, 3) := by decide +kernel
theorem d_Ct_lift_100 : decode b_Ct_lift 100 = .ok (.aload_n 0, 1) := by decide +kernel
theorem d_Ct_lift_101 : decode b_Ct_lift 101 = .ok (.getfield 10, 3) := by decide +kernel
theorem d_Ct_lift_104 : decode b_Ct_lift 104 = .ok (.new 112, 3) := by decide +kernel
theorem d_Ct_lift_107 : decode b_Ct_lift 107 = .ok (.dup, 1) := by decide +kernel
theorem d_Ct_lift_108 : decode b_Ct_lift 108 = .ok (.iload_n 1, 1) := by decide +kernel
theorem d_Ct_lift_109 : decode b_Ct_lift 109 = .ok (.iload_n 2, 1) := by decide +kernel
theorem d_Ct_lift_110 : decode b_Ct_lift 110 = .ok (.iload_n 3, 1) := by decide +kernel
theorem d_Ct_lift_111 : decode b_Ct_lift 111 = .ok (.iload 4, 2) := by decide +kernel
theorem d_Ct_lift_113 : decode b_Ct_lift 113 = .ok (.iload 5, 2) := by decide +kernel
theorem d_Ct_lift_115 : decode b_Ct_lift 115 = .ok (.iload 6, 2) := by decide +kernel
theorem d_Ct_lift_117 : decode b_Ct_lift 117 = .ok (.invokespecial 114, 3) := by decide +kernel
theorem d_Ct_lift_120 : decode b_Ct_lift 120 = .ok (.invokevirtual 117, 3) := by decide +kernel
theorem d_Ct_lift_123 : decode b_Ct_lift 123 = .ok (.ireturn, 1) := by decide +kernel
theorem d_Ct_part_0 : decode b_Ct_part 0 = .ok (.aload_n 0, 1) := by decide +kernel
theorem d_Ct_part_1 : decode b_Ct_part 1 = .ok (.getfield 10, 3) := by decide +kernel
theorem d_Ct_part_4 : decode b_Ct_part 4 = .ok (.iload_n 1, 1) := by decide +kernel
theorem d_Ct_part_5 : decode b_Ct_part 5 = .ok (.invokevirtual 121, 3) := by decide +kernel
theorem d_Ct_part_8 : decode b_Ct_part 8 = .ok (.ifCond .eq 20, 3) := by decide +kernel
theorem d_Ct_part_11 : decode b_Ct_part 11 = .ok (.iload_n 2, 1) := by decide +kernel
theorem d_Ct_part_12 : decode b_Ct_part 12 = .ok (.iconst 0, 1) := by decide +kernel
theorem d_Ct_part_13 : decode b_Ct_part 13 = .ok (.bipush 7, 2) := by decide +kernel
theorem d_Ct_part_15 : decode b_Ct_part 15 = .ok (.invokestatic 68, 3) := by decide +kernel
theorem d_Ct_part_18 : decode b_Ct_part 18 = .ok (.ifCond .eq 10, 3) := by decide +kernel
theorem d_Ct_part_21 : decode b_Ct_part 21 = .ok (.iload_n 3, 1) := by decide +kernel
theorem d_Ct_part_22 : decode b_Ct_part 22 = .ok (.invokestatic 125, 3) := by decide +kernel
theorem d_Ct_part_25 : decode b_Ct_part 25 = .ok (.ifCond .ne 13, 3) := by decide +kernel
theorem d_Ct_part_28 : decode b_Ct_part 28 = .ok (.new 76, 3) := by decide +kernel
theorem d_Ct_part_31 : decode b_Ct_part 31 = .ok (.dup, 1) := by decide +kernel
theorem d_Ct_part_32 : decode b_Ct_part 32 = .ok (.ldc 128, 2) := by decide +kernel
theorem d_Ct_part_34 : decode b_Ct_part 34 = .ok (.invokespecial 80, 3) := by decide +kernel
theorem d_Ct_part_37 : decode b_Ct_part 37 = .ok (.athrow, 1) := by decide +kernel
theorem d_Ct_part_38 : decode b_Ct_part 38 = .ok (.iload 4, 2) := by decide +kernel
theorem d_Ct_part_40 : decode b_Ct_part 40 = .ok (.iconst 1, 1) := by decide +kernel
theorem d_Ct_part_41 : decode b_Ct_part 41 = .ok (.sipush 400, 3) := by decide +kernel
theorem d_Ct_part_44 : decode b_Ct_part 44 = .ok (.invokestatic 68, 3) := by decide +kernel
theorem d_Ct_part_47 : decode b_Ct_part 47 = .ok (.ifCond .eq 27, 3) := by decide +kernel
theorem d_Ct_part_50 : decode b_Ct_part 50 = .ok (.iload 5, 2) := by decide +kernel
theorem d_Ct_part_52 : decode b_Ct_part 52 = .ok (.iconst 1, 1) := by decide +kernel
theorem d_Ct_part_53 : decode b_Ct_part 53 = .ok (.sipush 10000, 3) := by decide +kernel
theorem d_Ct_part_56 : decode b_Ct_part 56 = .ok (.invokestatic 68, 3) := by decide +kernel
theorem d_Ct_part_59 : decode b_Ct_part 59 = .ok (.ifCond .eq 15, 3) := by decide +kernel
theorem d_Ct_part_62 : decode b_Ct_part 62 = .ok (.iload 6, 2) := by decide +kernel
theorem d_Ct_part_64 : decode b_Ct_part 64 = .ok (.iconst 1, 1) := by decide +kernel
theorem d_Ct_part_65 : decode b_Ct_part 65 = .ok (.sipush 7200, 3) := by decide +kernel
theorem d_Ct_part_68 : decode b_Ct_part 68 = .ok (.invokestatic 68, 3) := by decide +kernel
theorem d_Ct_part_71 : decode b_Ct_part 71 = .ok (.ifCond .ne 13, 3) := by decide +kernel
theorem d_Ct_part_74 : decode b_Ct_part 74 = .ok (.new 76, 3) := by decide +kernel
theorem d_Ct_part_77 : decode b_Ct_part 77 = .ok (.dup, 1) := by decide +kernel
theorem d_Ct_part_78 : decode b_Ct_part 78 = .ok (.ldc 130, 2) := by decide +kernel
theorem d_Ct_part_80 : decode b_Ct_part 80 = .ok (.invokespecial 80, 3) := by decide +kernel
theorem d_Ct_part_83 : decode b_Ct_part 83 = .ok (.athrow, 1) := by decide +kernel
theorem d_Ct_part_84 : decode b_Ct_part 84 = .ok (.aload_n 0, 1) := by decide +kernel
theorem d_Ct_part_85 : decode b_Ct_part 85 = .ok (.getfield 49, 3) := by decide +kernel
theorem d_Ct_part_88 : decode b_Ct_part 88 = .ok (.bipush 40, 2) := by decide +kernel
theorem d_Ct_part_90 : decode b_Ct_part 90 = .ok (.if_icmp .lt 13, 3) := by decide +kernel
theorem d_Ct_part_93 : decode b_Ct_part 93 = .ok (.new 86, 3) := by decide +kernel
theorem d_Ct_part_96 : decode b_Ct_part 96 = .ok (.dup, 1) := by decide +kernel
theorem d_Ct_part_97 : decode b_Ct_part 97 = .ok (.ldc 132, 2) := by decide +kernel
theorem d_Ct_part_99 : decode b_Ct_part 99 = .ok (.invokespecial 90, 3) := by decide +kernel
theorem d_Ct_part_102 : decode b_Ct_part 102 = .ok (.athrow, 1) := by decide +kernel
theorem d_Ct_part_103 : decode b_Ct_part 103 = .ok (.aload_n 0, 1) := by decide +kernel
theorem d_Ct_part_104 : decode b_Ct_part 104 = .ok (.getfield 49, 3) := by decide +kernel
theorem d_Ct_part_107 : decode b_Ct_part 107 = .ok (.istore 7, 2) := by decide +kernel
theorem d_Ct_part_109 : decode b_Ct_part 109 = .ok (.aload_n 0, 1) := by decide +kernel
theorem d_Ct_part_110 : decode b_Ct_part 110 = .ok (.getfield 18, 3) := by decide +kernel
theorem d_Ct_part_113 : decode b_Ct_part 113 = .ok (.iload 7, 2) := by decide +kernel
theorem d_Ct_part_115 : decode b_Ct_part 115 = .ok (.new 16, 3) := by decide +kernel
theorem d_Ct_part_118 : decode b_Ct_part 118 = .ok (.dup, 1) := by decide +kernel
theorem d_Ct_part_119 : decode b_Ct_part 119 = .ok (.iload 7, 2) := by decide +kernel
theorem d_Ct_part_121 : decode b_Ct_part 121 = .ok (.aload_n 0, 1) := by decide +kernel
theorem d_Ct_part_122 : decode b_Ct_part 122 = .ok (.getfield 10, 3) := by decide +kernel
theorem d_Ct_part_125 : decode b_Ct_part 125 = .ok (.getfield 134, 3) := by decide +kernel
theorem d_Ct_part_128 : decode b_Ct_part 128 = .ok (.iload_n 1, 1) := by decide +kernel
theorem d_Ct_part_129 : decode b_Ct_part 129 = .ok (.aaload, 1) := by decide +kernel
theorem d_Ct_part_130 : decode b_Ct_part 130 = .ok (.iload_n 2, 1) := by decide +kernel
theorem d_Ct_part_131 : decode b_Ct_part 131 = .ok (.iload_n 3, 1) := by decide +kernel
theorem d_Ct_part_132 : decode b_Ct_part 132 = .ok (.iload 4, 2) := by decide +kernel
theorem d_Ct_part_134 : decode b_Ct_part 134 = .ok (.iload 5, 2) := by decide +kernel
theorem d_Ct_part_136 : decode b_Ct_part 136 = .ok (.iload 6, 2) := by decide +kernel
theorem d_Ct_part_138 : decode b_Ct_part 138 = .ok (.invokespecial 138, 3) := by decide +kernel
theorem d_Ct_part_141 : decode b_Ct_part 141 = .ok (.aastore, 1) := by decide +kernel
theorem d_Ct_part_142 : decode b_Ct_part 142 = .ok (.aload_n 0, 1) := by decide +kernel
theorem d_Ct_part_143 : decode b_Ct_part 143 = .ok (.dup, 1) := by decide +kernel
theorem d_Ct_part_144 : decode b_Ct_part 144 = .ok (.getfield 49, 3) := by decide +kernel
theorem d_Ct_part_147 : decode b_Ct_part 147 = .ok (.iconst 1, 1) := by decide +kernel
theorem d_Ct_part_148 : decode b_Ct_part 148 = .ok (.iadd, 1) := by decide +kernel
theorem d_Ct_part_149 : decode b_Ct_part 149 = .ok (.putfield 49, 3) := by decide +kernel
theorem d_Ct_part_152 : decode b_Ct_part 152 = .ok (.iload 7, 2) := by decide +kernel
theorem d_Ct_part_154 : decode b_Ct_part 154 = .ok (.ireturn, 1) := by decide +kernel
theorem d_Ct_person_0 : decode b_Ct_person 0 = .ok (.iload_n 1, 1) := by decide +kernel
theorem d_Ct_person_1 : decode b_Ct_person 1 = .ok (.iconst 0, 1) := by decide +kernel
theorem d_Ct_person_2 : decode b_Ct_person 2 = .ok (.sipush 255, 3) := by decide +kernel
theorem d_Ct_person_5 : decode b_Ct_person 5 = .ok (.invokestatic 68, 3) := by decide +kernel
theorem d_Ct_person_8 : decode b_Ct_person 8 = .ok (.ifCond .eq 24, 3) := by decide +kernel
theorem d_Ct_person_11 : decode b_Ct_person 11 = .ok (.aload_n 0, 1) := by decide +kernel
theorem d_Ct_person_12 : decode b_Ct_person 12 = .ok (.getfield 10, 3) := by decide +kernel
theorem d_Ct_person_15 : decode b_Ct_person 15 = .ok (.iload_n 2, 1) := by decide +kernel
theorem d_Ct_person_16 : decode b_Ct_person 16 = .ok (.invokevirtual 121, 3) := by decide +kernel
theorem d_Ct_person_19 : decode b_Ct_person 19 = .ok (.ifCond .eq 13, 3) := by decide +kernel
theorem d_Ct_person_22 : decode b_Ct_person 22 = .ok (.iload_n 3, 1) := by decide +kernel
theorem d_Ct_person_23 : decode b_Ct_person 23 = .ok (.iconst 0, 1) := by decide +kernel
theorem d_Ct_person_24 : decode b_Ct_person 24 = .ok (.ldc 141, 2) := by decide +kernel
theorem d_Ct_person_26 : decode b_Ct_person 26 = .ok (.invokestatic 68, 3) := by decide +kernel
theorem d_Ct_person_29 : decode b_Ct_person 29 = .ok (.ifCond .ne 13, 3) := by decide +kernel
theorem d_Ct_person_32 : decode b_Ct_person 32 = .ok (.new 76, 3) := by decide +kernel
theorem d_Ct_person_35 : decode b_Ct_person 35 = .ok (.dup, 1) := by decide +kernel
theorem d_Ct_person_36 : decode b_Ct_person 36 = .ok (.ldc 142, 2) := by decide +kernel
theorem d_Ct_person_38 : decode b_Ct_person 38 = .ok (.invokespecial 80, 3) := by decide +kernel
theorem d_Ct_person_41 : decode b_Ct_person 41 = .ok (.athrow, 1) := by decide +kernel
theorem d_Ct_person_42 : decode b_Ct_person 42 = .ok (.aload_n 0, 1) := by decide +kernel
theorem d_Ct_person_43 : decode b_Ct_person 43 = .ok (.getfield 53, 3) := by decide +kernel
theorem d_Ct_person_46 : decode b_Ct_person 46 = .ok (.bipush 8, 2) := by decide +kernel
theorem d_Ct_person_48 : decode b_Ct_person 48 = .ok (.if_icmp .lt 13, 3) := by decide +kernel
theorem d_Ct_person_51 : decode b_Ct_person 51 = .ok (.new 86, 3) := by decide +kernel
theorem d_Ct_person_54 : decode b_Ct_person 54 = .ok (.dup, 1) := by decide +kernel
theorem d_Ct_person_55 : decode b_Ct_person 55 = .ok (.ldc 144, 2) := by decide +kernel
theorem d_Ct_person_57 : decode b_Ct_person 57 = .ok (.invokespecial 90, 3) := by decide +kernel
theorem d_Ct_person_60 : decode b_Ct_person 60 = .ok (.athrow, 1) := by decide +kernel
theorem d_Ct_person_61 : decode b_Ct_person 61 = .ok (.aload_n 0, 1) := by decide +kernel
theorem d_Ct_person_62 : decode b_Ct_person 62 = .ok (.getfield 45, 3) := by decide +kernel
theorem d_Ct_person_65 : decode b_Ct_person 65 = .ok (.invokevirtual 91, 3) := by decide +kernel
theorem d_Ct_person_68 : decode b_Ct_person 68 = .ok (.aload_n 0, 1) := by decide +kernel
theorem d_Ct_person_69 : decode b_Ct_person 69 = .ok (.getfield 53, 3) := by decide +kernel
theorem d_Ct_person_72 : decode b_Ct_person 72 = .ok (.istore 4, 2) := by decide +kernel
theorem d_Ct_person_74 : decode b_Ct_person 74 = .ok (.aload_n 0, 1) := by decide +kernel
theorem d_Ct_person_75 : decode b_Ct_person 75 = .ok (.getfield 27, 3) := by decide +kernel
theorem d_Ct_person_78 : decode b_Ct_person 78 = .ok (.iload 4, 2) := by decide +kernel
theorem d_Ct_person_80 : decode b_Ct_person 80 = .ok (.new 25, 3) := by decide +kernel
theorem d_Ct_person_83 : decode b_Ct_person 83 = .ok (.dup, 1) := by decide +kernel
theorem d_Ct_person_84 : decode b_Ct_person 84 = .ok (.iload 4, 2) := by decide +kernel
theorem d_Ct_person_86 : decode b_Ct_person 86 = .ok (.iload_n 1, 1) := by decide +kernel
theorem d_Ct_person_87 : decode b_Ct_person 87 = .ok (.aload_n 0, 1) := by decide +kernel
theorem d_Ct_person_88 : decode b_Ct_person 88 = .ok (.getfield 10, 3) := by decide +kernel
theorem d_Ct_person_91 : decode b_Ct_person 91 = .ok (.getfield 134, 3) := by decide +kernel
theorem d_Ct_person_94 : decode b_Ct_person 94 = .ok (.iload_n 2, 1) := by decide +kernel
theorem d_Ct_person_95 : decode b_Ct_person 95 = .ok (.aaload, 1) := by decide +kernel
theorem d_Ct_person_96 : decode b_Ct_person 96 = .ok (.iload_n 3, 1) := by decide +kernel
theorem d_Ct_person_97 : decode b_Ct_person 97 = .ok (.invokespecial 146, 3) := by decide +kernel
theorem d_Ct_person_100 : decode b_Ct_person 100 = .ok (.aastore, 1) := by decide +kernel
theorem d_Ct_person_101 : decode b_Ct_person 101 = .ok (.aload_n 0, 1) := by decide +kernel
theorem d_Ct_person_102 : decode b_Ct_person 102 = .ok (.dup, 1) := by decide +kernel
theorem d_Ct_person_103 : decode b_Ct_person 103 = .ok (.getfield 53, 3) := by decide +kernel
theorem d_Ct_person_106 : decode b_Ct_person 106 = .ok (.iconst 1, 1) := by decide +kernel
theorem d_Ct_person_107 : decode b_Ct_person 107 = .ok (.iadd, 1) := by decide +kernel
theorem d_Ct_person_108 : decode b_Ct_person 108 = .ok (.putfield 53, 3) := by decide +kernel
theorem d_Ct_person_111 : decode b_Ct_person 111 = .ok (.iload 4, 2) := by decide +kernel
theorem d_Ct_person_113 : decode b_Ct_person 113 = .ok (.ireturn, 1) := by decide +kernel
theorem d_Ct_used_0 : decode b_Ct_used 0 = .ok (.aload_n 0, 1) := by decide +kernel
theorem d_Ct_used_1 : decode b_Ct_used 1 = .ok (.iload_n 1, 1) := by decide +kernel
theorem d_Ct_used_2 : decode b_Ct_used 2 = .ok (.invokevirtual 149, 3) := by decide +kernel
theorem d_Ct_used_5 : decode b_Ct_used 5 = .ok (.ifCond .eq 21, 3) := by decide +kernel
theorem d_Ct_used_8 : decode b_Ct_used 8 = .ok (.iload_n 2, 1) := by decide +kernel
theorem d_Ct_used_9 : decode b_Ct_used 9 = .ok (.invokestatic 152, 3) := by decide +kernel
theorem d_Ct_used_12 : decode b_Ct_used 12 = .ok (.ifCond .eq 14, 3) := by decide +kernel
theorem d_Ct_used_15 : decode b_Ct_used 15 = .ok (.iload_n 3, 1) := by decide +kernel
theorem d_Ct_used_16 : decode b_Ct_used 16 = .ok (.iconst 1, 1) := by decide +kernel
theorem d_Ct_used_17 : decode b_Ct_used 17 = .ok (.sipush 1000, 3) := by decide +kernel
theorem d_Ct_used_20 : decode b_Ct_used 20 = .ok (.invokestatic 68, 3) := by decide +kernel
theorem d_Ct_used_23 : decode b_Ct_used 23 = .ok (.ifCond .ne 13, 3) := by decide +kernel
theorem d_Ct_used_26 : decode b_Ct_used 26 = .ok (.new 76, 3) := by decide +kernel
theorem d_Ct_used_29 : decode b_Ct_used 29 = .ok (.dup, 1) := by decide +kernel
theorem d_Ct_used_30 : decode b_Ct_used 30 = .ok (.ldc 155, 2) := by decide +kernel
theorem d_Ct_used_32 : decode b_Ct_used 32 = .ok (.invokespecial 80, 3) := by decide +kernel
theorem d_Ct_used_35 : decode b_Ct_used 35 = .ok (.athrow, 1) := by decide +kernel
theorem d_Ct_used_36 : decode b_Ct_used 36 = .ok (.aload_n 0, 1) := by decide +kernel
theorem d_Ct_used_37 : decode b_Ct_used 37 = .ok (.getfield 18, 3) := by decide +kernel
theorem d_Ct_used_40 : decode b_Ct_used 40 = .ok (.iload_n 1, 1) := by decide +kernel
theorem d_Ct_used_41 : decode b_Ct_used 41 = .ok (.aaload, 1) := by decide +kernel
theorem d_Ct_used_42 : decode b_Ct_used 42 = .ok (.astore 4, 2) := by decide +kernel
theorem d_Ct_used_44 : decode b_Ct_used 44 = .ok (.iload_n 2, 1) := by decide +kernel
theorem d_Ct_used_45 : decode b_Ct_used 45 = .ok (.aload 4, 2) := by decide +kernel
theorem d_Ct_used_47 : decode b_Ct_used 47 = .ok (.getfield 157, 3) := by decide +kernel
theorem d_Ct_used_50 : decode b_Ct_used 50 = .ok (.if_icmp .ge 13, 3) := by decide +kernel
theorem d_Ct_used_53 : decode b_Ct_used 53 = .ok (.new 76, 3) := by decide +kernel
theorem d_Ct_used_56 : decode b_Ct_used 56 = .ok (.dup, 1) := by decide +kernel
theorem d_Ct_used_57 : decode b_Ct_used 57 = .ok (.ldc 160, 2) := by decide +kernel
theorem d_Ct_used_59 : decode b_Ct_used 59 = .ok (.invokespecial 80, 3) := by decide +kernel
theorem d_Ct_used_62 : decode b_Ct_used 62 = .ok (.athrow, 1) := by decide +kernel
theorem d_Ct_used_63 : decode b_Ct_used 63 = .ok (.aload 4, 2) := by decide +kernel
theorem d_Ct_used_65 : decode b_Ct_used 65 = .ok (.iload_n 2, 1) := by decide +kernel
theorem d_Ct_used_66 : decode b_Ct_used 66 = .ok (.iload_n 3, 1) := by decide +kernel
theorem d_Ct_used_67 : decode b_Ct_used 67 = .ok (.invokevirtual 162, 3) := by decide +kernel
theorem d_Ct_used_70 : decode b_Ct_used 70 = .ok (.aload 4, 2) := by decide +kernel
theorem d_Ct_used_72 : decode b_Ct_used 72 = .ok (.getfield 166, 3) := by decide +kernel
theorem d_Ct_used_75 : decode b_Ct_used 75 = .ok (.ireturn, 1) := by decide +kernel
theorem d_Ct_stock_0 : decode b_Ct_stock 0 = .ok (.iload_n 1, 1) := by decide +kernel
theorem d_Ct_stock_1 : decode b_Ct_stock 1 = .ok (.invokestatic 125, 3) := by decide +kernel
theorem d_Ct_stock_4 : decode b_Ct_stock 4 = .ok (.ifCond .eq 14, 3) := by decide +kernel
theorem d_Ct_stock_7 : decode b_Ct_stock 7 = .ok (.iload_n 2, 1) := by decide +kernel
theorem d_Ct_stock_8 : decode b_Ct_stock 8 = .ok (.iconst 1, 1) := by decide +kernel
theorem d_Ct_stock_9 : decode b_Ct_stock 9 = .ok (.sipush 1000, 3) := by decide +kernel
theorem d_Ct_stock_12 : decode b_Ct_stock 12 = .ok (.invokestatic 68, 3) := by decide +kernel
theorem d_Ct_stock_15 : decode b_Ct_stock 15 = .ok (.ifCond .ne 13, 3) := by decide +kernel
theorem d_Ct_stock_18 : decode b_Ct_stock 18 = .ok (.new 76, 3) := by decide +kernel
theorem d_Ct_stock_21 : decode b_Ct_stock 21 = .ok (.dup, 1) := by decide +kernel
theorem d_Ct_stock_22 : decode b_Ct_stock 22 = .ok (.ldc 169, 2) := by decide +kernel
theorem d_Ct_stock_24 : decode b_Ct_stock 24 = .ok (.invokespecial 80, 3) := by decide +kernel
theorem d_Ct_stock_27 : decode b_Ct_stock 27 = .ok (.athrow, 1) := by decide +kernel
theorem d_Ct_stock_28 : decode b_Ct_stock 28 = .ok (.aload_n 0, 1) := by decide +kernel
theorem d_Ct_stock_29 : decode b_Ct_stock 29 = .ok (.getfield 31, 3) := by decide +kernel
theorem d_Ct_stock_32 : decode b_Ct_stock 32 = .ok (.iload_n 1, 1) := by decide +kernel
theorem d_Ct_stock_33 : decode b_Ct_stock 33 = .ok (.dup2, 1) := by decide +kernel
theorem d_Ct_stock_34 : decode b_Ct_stock 34 = .ok (.iaload, 1) := by decide +kernel
theorem d_Ct_stock_35 : decode b_Ct_stock 35 = .ok (.iload_n 2, 1) := by decide +kernel
theorem d_Ct_stock_36 : decode b_Ct_stock 36 = .ok (.iadd, 1) := by decide +kernel
theorem d_Ct_stock_37 : decode b_Ct_stock 37 = .ok (.iastore, 1) := by decide +kernel
theorem d_Ct_stock_38 : decode b_Ct_stock 38 = .ok (.aload_n 0, 1) := by decide +kernel
theorem d_Ct_stock_39 : decode b_Ct_stock 39 = .ok (.getfield 31, 3) := by decide +kernel
theorem d_Ct_stock_42 : decode b_Ct_stock 42 = .ok (.iload_n 1, 1) := by decide +kernel
theorem d_Ct_stock_43 : decode b_Ct_stock 43 = .ok (.iaload, 1) := by decide +kernel
theorem d_Ct_stock_44 : decode b_Ct_stock 44 = .ok (.ireturn, 1) := by decide +kernel
theorem d_Ct_walk_0 : decode b_Ct_walk 0 = .ok (.aload_n 0, 1) := by decide +kernel
theorem d_Ct_walk_1 : decode b_Ct_walk 1 = .ok (.getfield 10, 3) := by decide +kernel
theorem d_Ct_walk_4 : decode b_Ct_walk 4 = .ok (.iload_n 1, 1) := by decide +kernel
theorem d_Ct_walk_5 : decode b_Ct_walk 5 = .ok (.invokevirtual 121, 3) := by decide +kernel
theorem d_Ct_walk_8 : decode b_Ct_walk 8 = .ok (.ifCond .eq 14, 3) := by decide +kernel
theorem d_Ct_walk_11 : decode b_Ct_walk 11 = .ok (.aload_n 0, 1) := by decide +kernel
theorem d_Ct_walk_12 : decode b_Ct_walk 12 = .ok (.getfield 10, 3) := by decide +kernel
theorem d_Ct_walk_15 : decode b_Ct_walk 15 = .ok (.iload_n 2, 1) := by decide +kernel
theorem d_Ct_walk_16 : decode b_Ct_walk 16 = .ok (.invokevirtual 121, 3) := by decide +kernel
theorem d_Ct_walk_19 : decode b_Ct_walk 19 = .ok (.ifCond .ne 13, 3) := by decide +kernel
theorem d_Ct_walk_22 : decode b_Ct_walk 22 = .ok (.new 76, 3) := by decide +kernel
theorem d_Ct_walk_25 : decode b_Ct_walk 25 = .ok (.dup, 1) := by decide +kernel
theorem d_Ct_walk_26 : decode b_Ct_walk 26 = .ok (.ldc 171, 2) := by decide +kernel
theorem d_Ct_walk_28 : decode b_Ct_walk 28 = .ok (.invokespecial 80, 3) := by decide +kernel
theorem d_Ct_walk_31 : decode b_Ct_walk 31 = .ok (.athrow, 1) := by decide +kernel
theorem d_Ct_walk_32 : decode b_Ct_walk 32 = .ok (.aload_n 0, 1) := by decide +kernel
theorem d_Ct_walk_33 : decode b_Ct_walk 33 = .ok (.getfield 10, 3) := by decide +kernel
theorem d_Ct_walk_36 : decode b_Ct_walk 36 = .ok (.aload_n 0, 1) := by decide +kernel
theorem d_Ct_walk_37 : decode b_Ct_walk 37 = .ok (.getfield 10, 3) := by decide +kernel
theorem d_Ct_walk_40 : decode b_Ct_walk 40 = .ok (.getfield 134, 3) := by decide +kernel
theorem d_Ct_walk_43 : decode b_Ct_walk 43 = .ok (.iload_n 1, 1) := by decide +kernel
theorem d_Ct_walk_44 : decode b_Ct_walk 44 = .ok (.aaload, 1) := by decide +kernel
theorem d_Ct_walk_45 : decode b_Ct_walk 45 = .ok (.aload_n 0, 1) := by decide +kernel
theorem d_Ct_walk_46 : decode b_Ct_walk 46 = .ok (.getfield 10, 3) := by decide +kernel
theorem d_Ct_walk_49 : decode b_Ct_walk 49 = .ok (.getfield 134, 3) := by decide +kernel
theorem d_Ct_walk_52 : decode b_Ct_walk 52 = .ok (.iload_n 2, 1) := by decide +kernel
theorem d_Ct_walk_53 : decode b_Ct_walk 53 = .ok (.aaload, 1) := by decide +kernel
theorem d_Ct_walk_54 : decode b_Ct_walk 54 = .ok (.invokevirtual 173, 3) := by decide +kernel
theorem d_Ct_walk_57 : decode b_Ct_walk 57 = .ok (.ireturn, 1) := by decide +kernel
theorem d_Ct_tour_0 : decode b_Ct_tour 0 = .ok (.iload_n 1, 1) := by decide +kernel
theorem d_Ct_tour_1 : decode b_Ct_tour 1 = .ok (.iconst 0, 1) := by decide +kernel
theorem d_Ct_tour_2 : decode b_Ct_tour 2 = .ok (.aload_n 0, 1) := by decide +kernel
theorem d_Ct_tour_3 : decode b_Ct_tour 3 = .ok (.getfield 53, 3) := by decide +kernel
theorem d_Ct_tour_6 : decode b_Ct_tour 6 = .ok (.iconst 1, 1) := by decide +kernel
theorem d_Ct_tour_7 : decode b_Ct_tour 7 = .ok (.isub, 1) := by decide +kernel
theorem d_Ct_tour_8 : decode b_Ct_tour 8 = .ok (.invokestatic 68, 3) := by decide +kernel
theorem d_Ct_tour_11 : decode b_Ct_tour 11 = .ok (.ifCond .eq 10, 3) := by decide +kernel
theorem d_Ct_tour_14 : decode b_Ct_tour 14 = .ok (.iload_n 2, 1) := by decide +kernel
theorem d_Ct_tour_15 : decode b_Ct_tour 15 = .ok (.invokestatic 152, 3) := by decide +kernel
theorem d_Ct_tour_18 : decode b_Ct_tour 18 = .ok (.ifCond .ne 13, 3) := by decide +kernel
theorem d_Ct_tour_21 : decode b_Ct_tour 21 = .ok (.new 76, 3) := by decide +kernel
theorem d_Ct_tour_24 : decode b_Ct_tour 24 = .ok (.dup, 1) := by decide +kernel
theorem d_Ct_tour_25 : decode b_Ct_tour 25 = .ok (.ldc 177, 2) := by decide +kernel
theorem d_Ct_tour_27 : decode b_Ct_tour 27 = .ok (.invokespecial 80, 3) := by decide +kernel
theorem d_Ct_tour_30 : decode b_Ct_tour 30 = .ok (.athrow, 1) := by decide +kernel
theorem d_Ct_tour_31 : decode b_Ct_tour 31 = .ok (.aload_n 0, 1) := by decide +kernel
theorem d_Ct_tour_32 : decode b_Ct_tour 32 = .ok (.getfield 27, 3) := by decide +kernel
theorem d_Ct_tour_35 : decode b_Ct_tour 35 = .ok (.iload_n 1, 1) := by decide +kernel
theorem d_Ct_tour_36 : decode b_Ct_tour 36 = .ok (.aaload, 1) := by decide +kernel
theorem d_Ct_tour_37 : decode b_Ct_tour 37 = .ok (.astore_n 3, 1) := by decide +kernel
theorem d_Ct_tour_38 : decode b_Ct_tour 38 = .ok (.aload_n 0, 1) := by decide +kernel
theorem d_Ct_tour_39 : decode b_Ct_tour 39 = .ok (.aload_n 3, 1) := by decide +kernel
theorem d_Ct_tour_40 : decode b_Ct_tour 40 = .ok (.iload_n 2, 1) := by decide +kernel
theorem d_Ct_tour_41 : decode b_Ct_tour 41 = .ok (.invokevirtual 179, 3) := by decide +kernel
theorem d_Ct_tour_44 : decode b_Ct_tour 44 = .ok (.aload_n 0, 1) := by decide +kernel
theorem d_Ct_tour_45 : decode b_Ct_tour 45 = .ok (.getfield 38, 3) := by decide +kernel
theorem d_Ct_tour_48 : decode b_Ct_tour 48 = .ok (.aload_n 0, 1) := by decide +kernel
theorem d_Ct_tour_49 : decode b_Ct_tour 49 = .ok (.getfield 10, 3) := by decide +kernel
theorem d_Ct_tour_52 : decode b_Ct_tour 52 = .ok (.aload_n 3, 1) := by decide +kernel
theorem d_Ct_tour_53 : decode b_Ct_tour 53 = .ok (.getfield 183, 3) := by decide +kernel
theorem d_Ct_tour_56 : decode b_Ct_tour 56 = .ok (.invokevirtual 187, 3) := by decide +kernel
theorem d_Ct_tour_59 : decode b_Ct_tour 59 = .ok (.aload_n 0, 1) := by decide +kernel
theorem d_Ct_tour_60 : decode b_Ct_tour 60 = .ok (.getfield 38, 3) := by decide +kernel
theorem d_Ct_tour_63 : decode b_Ct_tour 63 = .ok (.invokevirtual 191, 3) := by decide +kernel
theorem d_Ct_tour_66 : decode b_Ct_tour 66 = .ok (.aload_n 0, 1) := by decide +kernel
theorem d_Ct_tour_67 : decode b_Ct_tour 67 = .ok (.getfield 45, 3) := by decide +kernel
theorem d_Ct_tour_70 : decode b_Ct_tour 70 = .ok (.aload_n 3, 1) := by decide +kernel
theorem d_Ct_tour_71 : decode b_Ct_tour 71 = .ok (.iload_n 2, 1) := by decide +kernel
theorem d_Ct_tour_72 : decode b_Ct_tour 72 = .ok (.invokevirtual 194, 3) := by decide +kernel
theorem d_Ct_tour_75 : decode b_Ct_tour 75 = .ok (.aload_n 0, 1) := by decide +kernel
theorem d_Ct_tour_76 : decode b_Ct_tour 76 = .ok (.getfield 38, 3) := by decide +kernel
theorem d_Ct_tour_79 : decode b_Ct_tour 79 = .ok (.aload_n 0, 1) := by decide +kernel
theorem d_Ct_tour_80 : decode b_Ct_tour 80 = .ok (.getfield 45, 3) := by decide +kernel
theorem d_Ct_tour_83 : decode b_Ct_tour 83 = .ok (.aload_n 0, 1) := by decide +kernel
theorem d_Ct_tour_84 : decode b_Ct_tour 84 = .ok (.getfield 38, 3) := by decide +kernel
theorem d_Ct_tour_87 : decode b_Ct_tour 87 = .ok (.aload_n 3, 1) := by decide +kernel
theorem d_Ct_tour_88 : decode b_Ct_tour 88 = .ok (.getfield 197, 3) := by decide +kernel
theorem d_Ct_tour_91 : decode b_Ct_tour 91 = .ok (.invokevirtual 200, 3) := by decide +kernel
theorem d_Ct_tour_94 : decode b_Ct_tour 94 = .ok (.invokevirtual 204, 3) := by decide +kernel
theorem d_Ct_tour_97 : decode b_Ct_tour 97 = .ok (.aload_n 0, 1) := by decide +kernel
theorem d_Ct_tour_98 : decode b_Ct_tour 98 = .ok (.getfield 45, 3) := by decide +kernel
theorem d_Ct_tour_101 : decode b_Ct_tour 101 = .ok (.getfield 208, 3) := by decide +kernel
theorem d_Ct_tour_104 : decode b_Ct_tour 104 = .ok (.ireturn, 1) := by decide +kernel
theorem d_Ct_stop_0 : decode b_Ct_stop 0 = .ok (.iload_n 1, 1) := by decide +kernel
theorem d_Ct_stop_1 : decode b_Ct_stop 1 = .ok (.iconst 0, 1) := by decide +kernel
theorem d_Ct_stop_2 : decode b_Ct_stop 2 = .ok (.aload_n 0, 1) := by decide +kernel
theorem d_Ct_stop_3 : decode b_Ct_stop 3 = .ok (.getfield 45, 3) := by decide +kernel
theorem d_Ct_stop_6 : decode b_Ct_stop 6 = .ok (.getfield 208, 3) := by decide +kernel
theorem d_Ct_stop_9 : decode b_Ct_stop 9 = .ok (.iconst 1, 1) := by decide +kernel
theorem d_Ct_stop_10 : decode b_Ct_stop 10 = .ok (.isub, 1) := by decide +kernel
theorem d_Ct_stop_11 : decode b_Ct_stop 11 = .ok (.invokestatic 68, 3) := by decide +kernel
theorem d_Ct_stop_14 : decode b_Ct_stop 14 = .ok (.ifCond .ne 13, 3) := by decide +kernel
theorem d_Ct_stop_17 : decode b_Ct_stop 17 = .ok (.new 76, 3) := by decide +kernel
theorem d_Ct_stop_20 : decode b_Ct_stop 20 = .ok (.dup, 1) := by decide +kernel
theorem d_Ct_stop_21 : decode b_Ct_stop 21 = .ok (.ldc 211, 2) := by decide +kernel
theorem d_Ct_stop_23 : decode b_Ct_stop 23 = .ok (.invokespecial 80, 3) := by decide +kernel
theorem d_Ct_stop_26 : decode b_Ct_stop 26 = .ok (.athrow, 1) := by decide +kernel
theorem d_Ct_stop_27 : decode b_Ct_stop 27 = .ok (.aload_n 0, 1) := by decide +kernel
theorem d_Ct_stop_28 : decode b_Ct_stop 28 = .ok (.getfield 45, 3) := by decide +kernel
theorem d_Ct_stop_31 : decode b_Ct_stop 31 = .ok (.getfield 213, 3) := by decide +kernel
theorem d_Ct_stop_34 : decode b_Ct_stop 34 = .ok (.iload_n 1, 1) := by decide +kernel
theorem d_Ct_stop_35 : decode b_Ct_stop 35 = .ok (.aaload, 1) := by decide +kernel
theorem d_Ct_stop_36 : decode b_Ct_stop 36 = .ok (.getfield 216, 3) := by decide +kernel
theorem d_Ct_stop_39 : decode b_Ct_stop 39 = .ok (.ireturn, 1) := by decide +kernel
theorem d_Ct_told_0 : decode b_Ct_told 0 = .ok (.iload_n 1, 1) := by decide +kernel
theorem d_Ct_told_1 : decode b_Ct_told 1 = .ok (.tableswitch 92 0 4 #[35, 43, 51, 59, 67], 35) := by decide +kernel
theorem d_Ct_told_36 : decode b_Ct_told 36 = .ok (.aload_n 0, 1) := by decide +kernel
theorem d_Ct_told_37 : decode b_Ct_told 37 = .ok (.getfield 45, 3) := by decide +kernel
theorem d_Ct_told_40 : decode b_Ct_told 40 = .ok (.getfield 208, 3) := by decide +kernel
theorem d_Ct_told_43 : decode b_Ct_told 43 = .ok (.ireturn, 1) := by decide +kernel
theorem d_Ct_told_44 : decode b_Ct_told 44 = .ok (.aload_n 0, 1) := by decide +kernel
theorem d_Ct_told_45 : decode b_Ct_told 45 = .ok (.getfield 45, 3) := by decide +kernel
theorem d_Ct_told_48 : decode b_Ct_told 48 = .ok (.getfield 219, 3) := by decide +kernel
theorem d_Ct_told_51 : decode b_Ct_told 51 = .ok (.ireturn, 1) := by decide +kernel
theorem d_Ct_told_52 : decode b_Ct_told 52 = .ok (.aload_n 0, 1) := by decide +kernel
theorem d_Ct_told_53 : decode b_Ct_told 53 = .ok (.getfield 45, 3) := by decide +kernel
theorem d_Ct_told_56 : decode b_Ct_told 56 = .ok (.getfield 222, 3) := by decide +kernel
theorem d_Ct_told_59 : decode b_Ct_told 59 = .ok (.ireturn, 1) := by decide +kernel
theorem d_Ct_told_60 : decode b_Ct_told 60 = .ok (.aload_n 0, 1) := by decide +kernel
theorem d_Ct_told_61 : decode b_Ct_told 61 = .ok (.getfield 45, 3) := by decide +kernel
theorem d_Ct_told_64 : decode b_Ct_told 64 = .ok (.getfield 225, 3) := by decide +kernel
theorem d_Ct_told_67 : decode b_Ct_told 67 = .ok (.ireturn, 1) := by decide +kernel
theorem d_Ct_told_68 : decode b_Ct_told 68 = .ok (.aload_n 0, 1) := by decide +kernel
theorem d_Ct_told_69 : decode b_Ct_told 69 = .ok (.getfield 45, 3) := by decide +kernel
theorem d_Ct_told_72 : decode b_Ct_told 72 = .ok (.getfield 228, 3) := by decide +kernel
theorem d_Ct_told_75 : decode b_Ct_told 75 = .ok (.ifnonnull 7, 3) := by decide +kernel
theorem d_Ct_told_78 : decode b_Ct_told 78 = .ok (.iconst (-1), 1) := by decide +kernel
theorem d_Ct_told_79 : decode b_Ct_told 79 = .ok (.goto 13, 3) := by decide +kernel
theorem d_Ct_told_82 : decode b_Ct_told 82 = .ok (.aload_n 0, 1) := by decide +kernel
theorem d_Ct_told_83 : decode b_Ct_told 83 = .ok (.getfield 45, 3) := by decide +kernel
theorem d_Ct_told_86 : decode b_Ct_told 86 = .ok (.getfield 228, 3) := by decide +kernel
theorem d_Ct_told_89 : decode b_Ct_told 89 = .ok (.getfield 232, 3) := by decide +kernel
theorem d_Ct_told_92 : decode b_Ct_told 92 = .ok (.ireturn, 1) := by decide +kernel
theorem d_Ct_told_93 : decode b_Ct_told 93 = .ok (.new 76, 3) := by decide +kernel
theorem d_Ct_told_96 : decode b_Ct_told 96 = .ok (.dup, 1) := by decide +kernel
theorem d_Ct_told_97 : decode b_Ct_told 97 = .ok (.ldc 233, 2) := by decide +kernel
theorem d_Ct_told_99 : decode b_Ct_told 99 = .ok (.invokespecial 80, 3) := by decide +kernel
theorem d_Ct_told_102 : decode b_Ct_told 102 = .ok (.athrow, 1) := by decide +kernel
theorem d_Ct_put_0 : decode b_Ct_put 0 = .ok (.aload_n 0, 1) := by decide +kernel
theorem d_Ct_put_1 : decode b_Ct_put 1 = .ok (.iload_n 1, 1) := by decide +kernel
theorem d_Ct_put_2 : decode b_Ct_put 2 = .ok (.invokevirtual 149, 3) := by decide +kernel
theorem d_Ct_put_5 : decode b_Ct_put 5 = .ok (.ifCond .ne 13, 3) := by decide +kernel
theorem d_Ct_put_8 : decode b_Ct_put 8 = .ok (.new 76, 3) := by decide +kernel
theorem d_Ct_put_11 : decode b_Ct_put 11 = .ok (.dup, 1) := by decide +kernel
theorem d_Ct_put_12 : decode b_Ct_put 12 = .ok (.ldc 235, 2) := by decide +kernel
theorem d_Ct_put_14 : decode b_Ct_put 14 = .ok (.invokespecial 80, 3) := by decide +kernel
theorem d_Ct_put_17 : decode b_Ct_put 17 = .ok (.athrow, 1) := by decide +kernel
theorem d_Ct_put_18 : decode b_Ct_put 18 = .ok (.aload_n 0, 1) := by decide +kernel
theorem d_Ct_put_19 : decode b_Ct_put 19 = .ok (.getfield 18, 3) := by decide +kernel
theorem d_Ct_put_22 : decode b_Ct_put 22 = .ok (.iload_n 1, 1) := by decide +kernel
theorem d_Ct_put_23 : decode b_Ct_put 23 = .ok (.aaload, 1) := by decide +kernel
theorem d_Ct_put_24 : decode b_Ct_put 24 = .ok (.astore_n 2, 1) := by decide +kernel
theorem d_Ct_put_25 : decode b_Ct_put 25 = .ok (.aload_n 0, 1) := by decide +kernel
theorem d_Ct_put_26 : decode b_Ct_put 26 = .ok (.getfield 45, 3) := by decide +kernel
theorem d_Ct_put_29 : decode b_Ct_put 29 = .ok (.getfield 228, 3) := by decide +kernel
theorem d_Ct_put_32 : decode b_Ct_put 32 = .ok (.ifnull 20, 3) := by decide +kernel
theorem d_Ct_put_35 : decode b_Ct_put 35 = .ok (.aload_n 0, 1) := by decide +kernel
theorem d_Ct_put_36 : decode b_Ct_put 36 = .ok (.getfield 45, 3) := by decide +kernel
theorem d_Ct_put_39 : decode b_Ct_put 39 = .ok (.getfield 228, 3) := by decide +kernel
theorem d_Ct_put_42 : decode b_Ct_put 42 = .ok (.aload_n 2, 1) := by decide +kernel
theorem d_Ct_put_43 : decode b_Ct_put 43 = .ok (.getfield 237, 3) := by decide +kernel
theorem d_Ct_put_46 : decode b_Ct_put 46 = .ok (.invokevirtual 240, 3) := by decide +kernel
theorem d_Ct_put_49 : decode b_Ct_put 49 = .ok (.ifCond .ne 13, 3) := by decide +kernel
theorem d_Ct_put_52 : decode b_Ct_put 52 = .ok (.new 86, 3) := by decide +kernel
theorem d_Ct_put_55 : decode b_Ct_put 55 = .ok (.dup, 1) := by decide +kernel
theorem d_Ct_put_56 : decode b_Ct_put 56 = .ok (.ldc 243, 2) := by decide +kernel
theorem d_Ct_put_58 : decode b_Ct_put 58 = .ok (.invokespecial 90, 3) := by decide +kernel
theorem d_Ct_put_61 : decode b_Ct_put 61 = .ok (.athrow, 1) := by decide +kernel
theorem d_Ct_put_62 : decode b_Ct_put 62 = .ok (.aload_n 0, 1) := by decide +kernel
theorem d_Ct_put_63 : decode b_Ct_put 63 = .ok (.getfield 45, 3) := by decide +kernel
theorem d_Ct_put_66 : decode b_Ct_put 66 = .ok (.getfield 208, 3) := by decide +kernel
theorem d_Ct_put_69 : decode b_Ct_put 69 = .ok (.bipush 20, 2) := by decide +kernel
theorem d_Ct_put_71 : decode b_Ct_put 71 = .ok (.if_icmp .ge 14, 3) := by decide +kernel
theorem d_Ct_put_74 : decode b_Ct_put 74 = .ok (.aload_n 0, 1) := by decide +kernel
theorem d_Ct_put_75 : decode b_Ct_put 75 = .ok (.getfield 45, 3) := by decide +kernel
theorem d_Ct_put_78 : decode b_Ct_put 78 = .ok (.aload_n 2, 1) := by decide +kernel
theorem d_Ct_put_79 : decode b_Ct_put 79 = .ok (.invokevirtual 245, 3) := by decide +kernel
theorem d_Ct_put_82 : decode b_Ct_put 82 = .ok (.ifCond .eq 13, 3) := by decide +kernel
theorem d_Ct_put_85 : decode b_Ct_put 85 = .ok (.new 86, 3) := by decide +kernel
theorem d_Ct_put_88 : decode b_Ct_put 88 = .ok (.dup, 1) := by decide +kernel
theorem d_Ct_put_89 : decode b_Ct_put 89 = .ok (.ldc 249, 2) := by decide +kernel
theorem d_Ct_put_91 : decode b_Ct_put 91 = .ok (.invokespecial 90, 3) := by decide +kernel
theorem d_Ct_put_94 : decode b_Ct_put 94 = .ok (.athrow, 1) := by decide +kernel
theorem d_Ct_put_95 : decode b_Ct_put 95 = .ok (.aload_n 0, 1) := by decide +kernel
theorem d_Ct_put_96 : decode b_Ct_put 96 = .ok (.getfield 45, 3) := by decide +kernel
theorem d_Ct_put_99 : decode b_Ct_put 99 = .ok (.aload_n 0, 1) := by decide +kernel
theorem d_Ct_put_100 : decode b_Ct_put 100 = .ok (.getfield 10, 3) := by decide +kernel
theorem d_Ct_put_103 : decode b_Ct_put 103 = .ok (.aload_n 2, 1) := by decide +kernel
theorem d_Ct_put_104 : decode b_Ct_put 104 = .ok (.getfield 251, 3) := by decide +kernel
theorem d_Ct_put_107 : decode b_Ct_put 107 = .ok (.invokevirtual 254, 3) := by decide +kernel
theorem d_Ct_put_110 : decode b_Ct_put 110 = .ok (.istore_n 3, 1) := by decide +kernel
theorem d_Ct_put_111 : decode b_Ct_put 111 = .ok (.iload_n 3, 1) := by decide +kernel
theorem d_Ct_put_112 : decode b_Ct_put 112 = .ok (.iconst (-1), 1) := by decide +kernel
theorem d_Ct_put_113 : decode b_Ct_put 113 = .ok (.if_icmp .ne 6, 3) := by decide +kernel
theorem d_Ct_put_116 : decode b_Ct_put 116 = .ok (.bipush (-2), 2) := by decide +kernel
theorem d_Ct_put_118 : decode b_Ct_put 118 = .ok (.ireturn, 1) := by decide +kernel
theorem d_Ct_put_119 : decode b_Ct_put 119 = .ok (.aload_n 0, 1) := by decide +kernel
theorem d_Ct_put_120 : decode b_Ct_put 120 = .ok (.getfield 45, 3) := by decide +kernel
theorem d_Ct_put_123 : decode b_Ct_put 123 = .ok (.aload_n 0, 1) := by decide +kernel
theorem d_Ct_put_124 : decode b_Ct_put 124 = .ok (.getfield 10, 3) := by decide +kernel
theorem d_Ct_put_127 : decode b_Ct_put 127 = .ok (.aload_n 2, 1) := by decide +kernel
theorem d_Ct_put_128 : decode b_Ct_put 128 = .ok (.getfield 251, 3) := by decide +kernel
theorem d_Ct_put_131 : decode b_Ct_put 131 = .ok (.iload_n 3, 1) := by decide +kernel
theorem d_Ct_put_132 : decode b_Ct_put 132 = .ok (.invokevirtual 258, 3) := by decide +kernel
theorem d_Ct_put_135 : decode b_Ct_put 135 = .ok (.istore 4, 2) := by decide +kernel
theorem d_Ct_put_137 : decode b_Ct_put 137 = .ok (.aload_n 0, 1) := by decide +kernel
theorem d_Ct_put_138 : decode b_Ct_put 138 = .ok (.getfield 45, 3) := by decide +kernel
theorem d_Ct_put_141 : decode b_Ct_put 141 = .ok (.aload_n 2, 1) := by decide +kernel
theorem d_Ct_put_142 : decode b_Ct_put 142 = .ok (.iload_n 3, 1) := by decide +kernel
theorem d_Ct_put_143 : decode b_Ct_put 143 = .ok (.iload 4, 2) := by decide +kernel
theorem d_Ct_put_145 : decode b_Ct_put 145 = .ok (.invokevirtual 262, 3) := by decide +kernel
theorem d_Ct_put_148 : decode b_Ct_put 148 = .ok (.iload 4, 2) := by decide +kernel
theorem d_Ct_put_150 : decode b_Ct_put 150 = .ok (.ireturn, 1) := by decide +kernel
theorem d_Ct_done_0 : decode b_Ct_done 0 = .ok (.aload_n 0, 1) := by decide +kernel
theorem d_Ct_done_1 : decode b_Ct_done 1 = .ok (.getfield 45, 3) := by decide +kernel
theorem d_Ct_done_4 : decode b_Ct_done 4 = .ok (.getfield 225, 3) := by decide +kernel
theorem d_Ct_done_7 : decode b_Ct_done 7 = .ok (.aload_n 0, 1) := by decide +kernel
theorem d_Ct_done_8 : decode b_Ct_done 8 = .ok (.getfield 45, 3) := by decide +kernel
theorem d_Ct_done_11 : decode b_Ct_done 11 = .ok (.getfield 208, 3) := by decide +kernel
theorem d_Ct_done_14 : decode b_Ct_done 14 = .ok (.if_icmp .lt 14, 3) := by decide +kernel
theorem d_Ct_done_17 : decode b_Ct_done 17 = .ok (.new 86, 3) := by decide +kernel
theorem d_Ct_done_20 : decode b_Ct_done 20 = .ok (.dup, 1) := by decide +kernel
theorem d_Ct_done_21 : decode b_Ct_done 21 = .ok (.ldc_w 266, 3) := by decide +kernel
theorem d_Ct_done_24 : decode b_Ct_done 24 = .ok (.invokespecial 90, 3) := by decide +kernel
theorem d_Ct_done_27 : decode b_Ct_done 27 = .ok (.athrow, 1) := by decide +kernel
theorem d_Ct_done_28 : decode b_Ct_done 28 = .ok (.aload_n 0, 1) := by decide +kernel
theorem d_Ct_done_29 : decode b_Ct_done 29 = .ok (.getfield 45, 3) := by decide +kernel
theorem d_Ct_done_32 : decode b_Ct_done 32 = .ok (.getfield 213, 3) := by decide +kernel
theorem d_Ct_done_35 : decode b_Ct_done 35 = .ok (.aload_n 0, 1) := by decide +kernel
theorem d_Ct_done_36 : decode b_Ct_done 36 = .ok (.getfield 45, 3) := by decide +kernel
theorem d_Ct_done_39 : decode b_Ct_done 39 = .ok (.getfield 225, 3) := by decide +kernel
theorem d_Ct_done_42 : decode b_Ct_done 42 = .ok (.aaload, 1) := by decide +kernel
theorem d_Ct_done_43 : decode b_Ct_done 43 = .ok (.astore_n 1, 1) := by decide +kernel
theorem d_Ct_done_44 : decode b_Ct_done 44 = .ok (.aload_n 0, 1) := by decide +kernel
theorem d_Ct_done_45 : decode b_Ct_done 45 = .ok (.getfield 31, 3) := by decide +kernel
theorem d_Ct_done_48 : decode b_Ct_done 48 = .ok (.aload_n 1, 1) := by decide +kernel
theorem d_Ct_done_49 : decode b_Ct_done 49 = .ok (.getfield 268, 3) := by decide +kernel
theorem d_Ct_done_52 : decode b_Ct_done 52 = .ok (.iaload, 1) := by decide +kernel
theorem d_Ct_done_53 : decode b_Ct_done 53 = .ok (.ifCond .gt 6, 3) := by decide +kernel
theorem d_Ct_done_56 : decode b_Ct_done 56 = .ok (.bipush (-2), 2) := by decide +kernel
theorem d_Ct_done_58 : decode b_Ct_done 58 = .ok (.ireturn, 1) := by decide +kernel
theorem d_Ct_done_59 : decode b_Ct_done 59 = .ok (.aload_n 0, 1) := by decide +kernel
theorem d_Ct_done_60 : decode b_Ct_done 60 = .ok (.getfield 31, 3) := by decide +kernel
theorem d_Ct_done_63 : decode b_Ct_done 63 = .ok (.aload_n 1, 1) := by decide +kernel
theorem d_Ct_done_64 : decode b_Ct_done 64 = .ok (.getfield 268, 3) := by decide +kernel
theorem d_Ct_done_67 : decode b_Ct_done 67 = .ok (.dup2, 1) := by decide +kernel
theorem d_Ct_done_68 : decode b_Ct_done 68 = .ok (.iaload, 1) := by decide +kernel
theorem d_Ct_done_69 : decode b_Ct_done 69 = .ok (.iconst 1, 1) := by decide +kernel
theorem d_Ct_done_70 : decode b_Ct_done 70 = .ok (.isub, 1) := by decide +kernel
theorem d_Ct_done_71 : decode b_Ct_done 71 = .ok (.iastore, 1) := by decide +kernel
theorem d_Ct_done_72 : decode b_Ct_done 72 = .ok (.aload_n 1, 1) := by decide +kernel
theorem d_Ct_done_73 : decode b_Ct_done 73 = .ok (.aload_n 0, 1) := by decide +kernel
theorem d_Ct_done_74 : decode b_Ct_done 74 = .ok (.getfield 45, 3) := by decide +kernel
theorem d_Ct_done_77 : decode b_Ct_done 77 = .ok (.getfield 271, 3) := by decide +kernel
theorem d_Ct_done_80 : decode b_Ct_done 80 = .ok (.invokevirtual 274, 3) := by decide +kernel
theorem d_Ct_done_83 : decode b_Ct_done 83 = .ok (.aload_n 0, 1) := by decide +kernel
theorem d_Ct_done_84 : decode b_Ct_done 84 = .ok (.getfield 45, 3) := by decide +kernel
theorem d_Ct_done_87 : decode b_Ct_done 87 = .ok (.dup, 1) := by decide +kernel
theorem d_Ct_done_88 : decode b_Ct_done 88 = .ok (.getfield 225, 3) := by decide +kernel
theorem d_Ct_done_91 : decode b_Ct_done 91 = .ok (.iconst 1, 1) := by decide +kernel
theorem d_Ct_done_92 : decode b_Ct_done 92 = .ok (.iadd, 1) := by decide +kernel
theorem d_Ct_done_93 : decode b_Ct_done 93 = .ok (.putfield 225, 3) := by decide +kernel
theorem d_Ct_done_96 : decode b_Ct_done 96 = .ok (.aload_n 1, 1) := by decide +kernel
theorem d_Ct_done_97 : decode b_Ct_done 97 = .ok (.getfield 216, 3) := by decide +kernel
theorem d_Ct_done_100 : decode b_Ct_done 100 = .ok (.ireturn, 1) := by decide +kernel
theorem d_Ct_due_0 : decode b_Ct_due 0 = .ok (.aload_n 0, 1) := by decide +kernel
theorem d_Ct_due_1 : decode b_Ct_due 1 = .ok (.iload_n 1, 1) := by decide +kernel
theorem d_Ct_due_2 : decode b_Ct_due 2 = .ok (.invokevirtual 149, 3) := by decide +kernel
theorem d_Ct_due_5 : decode b_Ct_due 5 = .ok (.ifCond .ne 13, 3) := by decide +kernel
theorem d_Ct_due_8 : decode b_Ct_due 8 = .ok (.new 76, 3) := by decide +kernel
theorem d_Ct_due_11 : decode b_Ct_due 11 = .ok (.dup, 1) := by decide +kernel
theorem d_Ct_due_12 : decode b_Ct_due 12 = .ok (.ldc 235, 2) := by decide +kernel
theorem d_Ct_due_14 : decode b_Ct_due 14 = .ok (.invokespecial 80, 3) := by decide +kernel
theorem d_Ct_due_17 : decode b_Ct_due 17 = .ok (.athrow, 1) := by decide +kernel
theorem d_Ct_due_18 : decode b_Ct_due 18 = .ok (.aload_n 0, 1) := by decide +kernel
theorem d_Ct_due_19 : decode b_Ct_due 19 = .ok (.getfield 18, 3) := by decide +kernel
theorem d_Ct_due_22 : decode b_Ct_due 22 = .ok (.iload_n 1, 1) := by decide +kernel
theorem d_Ct_due_23 : decode b_Ct_due 23 = .ok (.aaload, 1) := by decide +kernel
theorem d_Ct_due_24 : decode b_Ct_due 24 = .ok (.invokevirtual 278, 3) := by decide +kernel
theorem d_Ct_due_27 : decode b_Ct_due 27 = .ok (.ireturn, 1) := by decide +kernel
theorem d_Ct_late_0 : decode b_Ct_late 0 = .ok (.iload_n 1, 1) := by decide +kernel
theorem d_Ct_late_1 : decode b_Ct_late 1 = .ok (.ifCond .ge 14, 3) := by decide +kernel
theorem d_Ct_late_4 : decode b_Ct_late 4 = .ok (.new 76, 3) := by decide +kernel
theorem d_Ct_late_7 : decode b_Ct_late 7 = .ok (.dup, 1) := by decide +kernel
theorem d_Ct_late_8 : decode b_Ct_late 8 = .ok (.ldc_w 282, 3) := by decide +kernel
theorem d_Ct_late_11 : decode b_Ct_late 11 = .ok (.invokespecial 80, 3) := by decide +kernel
theorem d_Ct_late_14 : decode b_Ct_late 14 = .ok (.athrow, 1) := by decide +kernel
theorem d_Ct_late_15 : decode b_Ct_late 15 = .ok (.iload_n 1, 1) := by decide +kernel
theorem d_Ct_late_16 : decode b_Ct_late 16 = .ok (.aload_n 0, 1) := by decide +kernel
theorem d_Ct_late_17 : decode b_Ct_late 17 = .ok (.getfield 49, 3) := by decide +kernel
theorem d_Ct_late_20 : decode b_Ct_late 20 = .ok (.if_icmp .lt 5, 3) := by decide +kernel
theorem d_Ct_late_23 : decode b_Ct_late 23 = .ok (.iconst (-1), 1) := by decide +kernel
theorem d_Ct_late_24 : decode b_Ct_late 24 = .ok (.ireturn, 1) := by decide +kernel
theorem d_Ct_late_25 : decode b_Ct_late 25 = .ok (.aload_n 0, 1) := by decide +kernel
theorem d_Ct_late_26 : decode b_Ct_late 26 = .ok (.invokevirtual 284, 3) := by decide +kernel
theorem d_Ct_late_29 : decode b_Ct_late 29 = .ok (.aload_n 0, 1) := by decide +kernel
theorem d_Ct_late_30 : decode b_Ct_late 30 = .ok (.getfield 22, 3) := by decide +kernel
theorem d_Ct_late_33 : decode b_Ct_late 33 = .ok (.iload_n 1, 1) := by decide +kernel
theorem d_Ct_late_34 : decode b_Ct_late 34 = .ok (.aaload, 1) := by decide +kernel
theorem d_Ct_late_35 : decode b_Ct_late 35 = .ok (.getfield 216, 3) := by decide +kernel
theorem d_Ct_late_38 : decode b_Ct_late 38 = .ok (.ireturn, 1) := by decide +kernel
theorem d_Ct_fine_0 : decode b_Ct_fine 0 = .ok (.aload_n 0, 1) := by decide +kernel
theorem d_Ct_fine_1 : decode b_Ct_fine 1 = .ok (.iload_n 1, 1) := by decide +kernel
theorem d_Ct_fine_2 : decode b_Ct_fine 2 = .ok (.invokevirtual 149, 3) := by decide +kernel
theorem d_Ct_fine_5 : decode b_Ct_fine 5 = .ok (.ifCond .eq 10, 3) := by decide +kernel
theorem d_Ct_fine_8 : decode b_Ct_fine 8 = .ok (.iload_n 2, 1) := by decide +kernel
theorem d_Ct_fine_9 : decode b_Ct_fine 9 = .ok (.invokestatic 152, 3) := by decide +kernel
theorem d_Ct_fine_12 : decode b_Ct_fine 12 = .ok (.ifCond .ne 14, 3) := by decide +kernel
theorem d_Ct_fine_15 : decode b_Ct_fine 15 = .ok (.new 76, 3) := by decide +kernel
theorem d_Ct_fine_18 : decode b_Ct_fine 18 = .ok (.dup, 1) := by decide +kernel
theorem d_Ct_fine_19 : decode b_Ct_fine 19 = .ok (.ldc_w 287, 3) := by decide +kernel
theorem d_Ct_fine_22 : decode b_Ct_fine 22 = .ok (.invokespecial 80, 3) := by decide +kernel
theorem d_Ct_fine_25 : decode b_Ct_fine 25 = .ok (.athrow, 1) := by decide +kernel
theorem d_Ct_fine_26 : decode b_Ct_fine 26 = .ok (.iconst 0, 1) := by decide +kernel
theorem d_Ct_fine_27 : decode b_Ct_fine 27 = .ok (.iload_n 2, 1) := by decide +kernel
theorem d_Ct_fine_28 : decode b_Ct_fine 28 = .ok (.aload_n 0, 1) := by decide +kernel
theorem d_Ct_fine_29 : decode b_Ct_fine 29 = .ok (.getfield 18, 3) := by decide +kernel
theorem d_Ct_fine_32 : decode b_Ct_fine 32 = .ok (.iload_n 1, 1) := by decide +kernel
theorem d_Ct_fine_33 : decode b_Ct_fine 33 = .ok (.aaload, 1) := by decide +kernel
theorem d_Ct_fine_34 : decode b_Ct_fine 34 = .ok (.invokevirtual 278, 3) := by decide +kernel
theorem d_Ct_fine_37 : decode b_Ct_fine 37 = .ok (.isub, 1) := by decide +kernel
theorem d_Ct_fine_38 : decode b_Ct_fine 38 = .ok (.invokestatic 62, 3) := by decide +kernel
theorem d_Ct_fine_41 : decode b_Ct_fine 41 = .ok (.istore_n 3, 1) := by decide +kernel
theorem d_Ct_fine_42 : decode b_Ct_fine 42 = .ok (.iload_n 3, 1) := by decide +kernel
theorem d_Ct_fine_43 : decode b_Ct_fine 43 = .ok (.bipush 10, 2) := by decide +kernel
theorem d_Ct_fine_45 : decode b_Ct_fine 45 = .ok (.invokestatic 56, 3) := by decide +kernel
theorem d_Ct_fine_48 : decode b_Ct_fine 48 = .ok (.istore 4, 2) := by decide +kernel
theorem d_Ct_fine_50 : decode b_Ct_fine 50 = .ok (.iload_n 3, 1) := by decide +kernel
theorem d_Ct_fine_51 : decode b_Ct_fine 51 = .ok (.iload 4, 2) := by decide +kernel
theorem d_Ct_fine_53 : decode b_Ct_fine 53 = .ok (.isub, 1) := by decide +kernel
theorem d_Ct_fine_54 : decode b_Ct_fine 54 = .ok (.bipush 20, 2) := by decide +kernel
theorem d_Ct_fine_56 : decode b_Ct_fine 56 = .ok (.invokestatic 56, 3) := by decide +kernel
theorem d_Ct_fine_59 : decode b_Ct_fine 59 = .ok (.istore 5, 2) := by decide +kernel
theorem d_Ct_fine_61 : decode b_Ct_fine 61 = .ok (.iload_n 3, 1) := by decide +kernel
theorem d_Ct_fine_62 : decode b_Ct_fine 62 = .ok (.iload 4, 2) := by decide +kernel
theorem d_Ct_fine_64 : decode b_Ct_fine 64 = .ok (.isub, 1) := by decide +kernel
theorem d_Ct_fine_65 : decode b_Ct_fine 65 = .ok (.iload 5, 2) := by decide +kernel
theorem d_Ct_fine_67 : decode b_Ct_fine 67 = .ok (.isub, 1) := by decide +kernel
theorem d_Ct_fine_68 : decode b_Ct_fine 68 = .ok (.istore 6, 2) := by decide +kernel
theorem d_Ct_fine_70 : decode b_Ct_fine 70 = .ok (.ldc_w 289, 3) := by decide +kernel
theorem d_Ct_fine_73 : decode b_Ct_fine 73 = .ok (.aload_n 0, 1) := by decide +kernel
theorem d_Ct_fine_74 : decode b_Ct_fine 74 = .ok (.getfield 65, 3) := by decide +kernel
theorem d_Ct_fine_77 : decode b_Ct_fine 77 = .ok (.iload 4, 2) := by decide +kernel
theorem d_Ct_fine_79 : decode b_Ct_fine 79 = .ok (.iconst 2, 1) := by decide +kernel
theorem d_Ct_fine_80 : decode b_Ct_fine 80 = .ok (.iload 5, 2) := by decide +kernel
theorem d_Ct_fine_82 : decode b_Ct_fine 82 = .ok (.imul, 1) := by decide +kernel
theorem d_Ct_fine_83 : decode b_Ct_fine 83 = .ok (.iadd, 1) := by decide +kernel
theorem d_Ct_fine_84 : decode b_Ct_fine 84 = .ok (.iconst 4, 1) := by decide +kernel
theorem d_Ct_fine_85 : decode b_Ct_fine 85 = .ok (.iload 6, 2) := by decide +kernel
theorem d_Ct_fine_87 : decode b_Ct_fine 87 = .ok (.imul, 1) := by decide +kernel
theorem d_Ct_fine_88 : decode b_Ct_fine 88 = .ok (.iadd, 1) := by decide +kernel
theorem d_Ct_fine_89 : decode b_Ct_fine 89 = .ok (.imul, 1) := by decide +kernel
theorem d_Ct_fine_90 : decode b_Ct_fine 90 = .ok (.invokestatic 56, 3) := by decide +kernel
theorem d_Ct_fine_93 : decode b_Ct_fine 93 = .ok (.ireturn, 1) := by decide +kernel
theorem d_Ct_wanted_0 : decode b_Ct_wanted 0 = .ok (.iload_n 1, 1) := by decide +kernel
theorem d_Ct_wanted_1 : decode b_Ct_wanted 1 = .ok (.invokestatic 125, 3) := by decide +kernel
theorem d_Ct_wanted_4 : decode b_Ct_wanted 4 = .ok (.ifCond .eq 10, 3) := by decide +kernel
theorem d_Ct_wanted_7 : decode b_Ct_wanted 7 = .ok (.iload_n 2, 1) := by decide +kernel
theorem d_Ct_wanted_8 : decode b_Ct_wanted 8 = .ok (.invokestatic 152, 3) := by decide +kernel
theorem d_Ct_wanted_11 : decode b_Ct_wanted 11 = .ok (.ifCond .ne 14, 3) := by decide +kernel
theorem d_Ct_wanted_14 : decode b_Ct_wanted 14 = .ok (.new 76, 3) := by decide +kernel
theorem d_Ct_wanted_17 : decode b_Ct_wanted 17 = .ok (.dup, 1) := by decide +kernel
theorem d_Ct_wanted_18 : decode b_Ct_wanted 18 = .ok (.ldc_w 290, 3) := by decide +kernel
theorem d_Ct_wanted_21 : decode b_Ct_wanted 21 = .ok (.invokespecial 80, 3) := by decide +kernel
theorem d_Ct_wanted_24 : decode b_Ct_wanted 24 = .ok (.athrow, 1) := by decide +kernel
theorem d_Ct_wanted_25 : decode b_Ct_wanted 25 = .ok (.iconst 0, 1) := by decide +kernel
theorem d_Ct_wanted_26 : decode b_Ct_wanted 26 = .ok (.istore_n 3, 1) := by decide +kernel
theorem d_Ct_wanted_27 : decode b_Ct_wanted 27 = .ok (.iconst 0, 1) := by decide +kernel
theorem d_Ct_wanted_28 : decode b_Ct_wanted 28 = .ok (.istore 4, 2) := by decide +kernel
theorem d_Ct_wanted_30 : decode b_Ct_wanted 30 = .ok (.iload 4, 2) := by decide +kernel
theorem d_Ct_wanted_32 : decode b_Ct_wanted 32 = .ok (.aload_n 0, 1) := by decide +kernel
theorem d_Ct_wanted_33 : decode b_Ct_wanted 33 = .ok (.getfield 49, 3) := by decide +kernel
theorem d_Ct_wanted_36 : decode b_Ct_wanted 36 = .ok (.if_icmp .ge 40, 3) := by decide +kernel
theorem d_Ct_wanted_39 : decode b_Ct_wanted 39 = .ok (.aload_n 0, 1) := by decide +kernel
theorem d_Ct_wanted_40 : decode b_Ct_wanted 40 = .ok (.getfield 18, 3) := by decide +kernel
theorem d_Ct_wanted_43 : decode b_Ct_wanted 43 = .ok (.iload 4, 2) := by decide +kernel
theorem d_Ct_wanted_45 : decode b_Ct_wanted 45 = .ok (.aaload, 1) := by decide +kernel
theorem d_Ct_wanted_46 : decode b_Ct_wanted 46 = .ok (.getfield 268, 3) := by decide +kernel
theorem d_Ct_wanted_49 : decode b_Ct_wanted 49 = .ok (.iload_n 1, 1) := by decide +kernel
theorem d_Ct_wanted_50 : decode b_Ct_wanted 50 = .ok (.if_icmp .ne 20, 3) := by decide +kernel
theorem d_Ct_wanted_53 : decode b_Ct_wanted 53 = .ok (.aload_n 0, 1) := by decide +kernel
theorem d_Ct_wanted_54 : decode b_Ct_wanted 54 = .ok (.getfield 18, 3) := by decide +kernel
theorem d_Ct_wanted_57 : decode b_Ct_wanted 57 = .ok (.iload 4, 2) := by decide +kernel
theorem d_Ct_wanted_59 : decode b_Ct_wanted 59 = .ok (.aaload, 1) := by decide +kernel
theorem d_Ct_wanted_60 : decode b_Ct_wanted 60 = .ok (.invokevirtual 278, 3) := by decide +kernel
theorem d_Ct_wanted_63 : decode b_Ct_wanted 63 = .ok (.iload_n 2, 1) := by decide +kernel
theorem d_Ct_wanted_64 : decode b_Ct_wanted 64 = .ok (.if_icmp .gt 6, 3) := by decide +kernel
theorem d_Ct_wanted_67 : decode b_Ct_wanted 67 = .ok (.iinc 3 1, 3) := by decide +kernel
theorem d_Ct_wanted_70 : decode b_Ct_wanted 70 = .ok (.iinc 4 1, 3) := by decide +kernel
theorem d_Ct_wanted_73 : decode b_Ct_wanted 73 = .ok (.goto (-43), 3) := by decide +kernel
theorem d_Ct_wanted_76 : decode b_Ct_wanted 76 = .ok (.iconst 0, 1) := by decide +kernel
theorem d_Ct_wanted_77 : decode b_Ct_wanted 77 = .ok (.iload_n 3, 1) := by decide +kernel
theorem d_Ct_wanted_78 : decode b_Ct_wanted 78 = .ok (.aload_n 0, 1) := by decide +kernel
theorem d_Ct_wanted_79 : decode b_Ct_wanted 79 = .ok (.getfield 31, 3) := by decide +kernel
theorem d_Ct_wanted_82 : decode b_Ct_wanted 82 = .ok (.iload_n 1, 1) := by decide +kernel
theorem d_Ct_wanted_83 : decode b_Ct_wanted 83 = .ok (.iaload, 1) := by decide +kernel
theorem d_Ct_wanted_84 : decode b_Ct_wanted 84 = .ok (.isub, 1) := by decide +kernel
theorem d_Ct_wanted_85 : decode b_Ct_wanted 85 = .ok (.invokestatic 62, 3) := by decide +kernel
theorem d_Ct_wanted_88 : decode b_Ct_wanted 88 = .ok (.ireturn, 1) := by decide +kernel
theorem d_Ct_within_0 : decode b_Ct_within 0 = .ok (.iload_n 0, 1) := by decide +kernel
theorem d_Ct_within_1 : decode b_Ct_within 1 = .ok (.iload_n 1, 1) := by decide +kernel
theorem d_Ct_within_2 : decode b_Ct_within 2 = .ok (.if_icmp .lt 12, 3) := by decide +kernel
theorem d_Ct_within_5 : decode b_Ct_within 5 = .ok (.iload_n 0, 1) := by decide +kernel
theorem d_Ct_within_6 : decode b_Ct_within 6 = .ok (.iload_n 2, 1) := by decide +kernel
theorem d_Ct_within_7 : decode b_Ct_within 7 = .ok (.if_icmp .gt 7, 3) := by decide +kernel
theorem d_Ct_within_10 : decode b_Ct_within 10 = .ok (.iconst 1, 1) := by decide +kernel
theorem d_Ct_within_11 : decode b_Ct_within 11 = .ok (.goto 4, 3) := by decide +kernel
theorem d_Ct_within_14 : decode b_Ct_within 14 = .ok (.iconst 0, 1) := by decide +kernel
theorem d_Ct_within_15 : decode b_Ct_within 15 = .ok (.ireturn, 1) := by decide +kernel
theorem d_Ct_isSpot_0 : decode b_Ct_isSpot 0 = .ok (.iload_n 0, 1) := by decide +kernel
theorem d_Ct_isSpot_1 : decode b_Ct_isSpot 1 = .ok (.iconst 0, 1) := by decide +kernel
theorem d_Ct_isSpot_2 : decode b_Ct_isSpot 2 = .ok (.bipush 100, 2) := by decide +kernel
theorem d_Ct_isSpot_4 : decode b_Ct_isSpot 4 = .ok (.invokestatic 68, 3) := by decide +kernel
theorem d_Ct_isSpot_7 : decode b_Ct_isSpot 7 = .ok (.ifCond .eq 17, 3) := by decide +kernel
theorem d_Ct_isSpot_10 : decode b_Ct_isSpot 10 = .ok (.iload_n 1, 1) := by decide +kernel
theorem d_Ct_isSpot_11 : decode b_Ct_isSpot 11 = .ok (.iconst 0, 1) := by decide +kernel
theorem d_Ct_isSpot_12 : decode b_Ct_isSpot 12 = .ok (.bipush 100, 2) := by decide +kernel
theorem d_Ct_isSpot_14 : decode b_Ct_isSpot 14 = .ok (.invokestatic 68, 3) := by decide +kernel
theorem d_Ct_isSpot_17 : decode b_Ct_isSpot 17 = .ok (.ifCond .eq 7, 3) := by decide +kernel
theorem d_Ct_isSpot_20 : decode b_Ct_isSpot 20 = .ok (.iconst 1, 1) := by decide +kernel
theorem d_Ct_isSpot_21 : decode b_Ct_isSpot 21 = .ok (.goto 4, 3) := by decide +kernel
theorem d_Ct_isSpot_24 : decode b_Ct_isSpot 24 = .ok (.iconst 0, 1) := by decide +kernel
theorem d_Ct_isSpot_25 : decode b_Ct_isSpot 25 = .ok (.ireturn, 1) := by decide +kernel
theorem d_Ct_isDay_0 : decode b_Ct_isDay 0 = .ok (.iload_n 0, 1) := by decide +kernel
theorem d_Ct_isDay_1 : decode b_Ct_isDay 1 = .ok (.iconst 0, 1) := by decide +kernel
theorem d_Ct_isDay_2 : decode b_Ct_isDay 2 = .ok (.ldc 141, 2) := by decide +kernel
theorem d_Ct_isDay_4 : decode b_Ct_isDay 4 = .ok (.invokestatic 68, 3) := by decide +kernel
theorem d_Ct_isDay_7 : decode b_Ct_isDay 7 = .ok (.ireturn, 1) := by decide +kernel
theorem d_Ct_isKind_0 : decode b_Ct_isKind 0 = .ok (.iload_n 0, 1) := by decide +kernel
theorem d_Ct_isKind_1 : decode b_Ct_isKind 1 = .ok (.iconst 0, 1) := by decide +kernel
theorem d_Ct_isKind_2 : decode b_Ct_isKind 2 = .ok (.iconst 4, 1) := by decide +kernel
theorem d_Ct_isKind_3 : decode b_Ct_isKind 3 = .ok (.invokestatic 68, 3) := by decide +kernel
theorem d_Ct_isKind_6 : decode b_Ct_isKind 6 = .ok (.ireturn, 1) := by decide +kernel
theorem d_Ct_isPart_0 : decode b_Ct_isPart 0 = .ok (.iload_n 1, 1) := by decide +kernel
theorem d_Ct_isPart_1 : decode b_Ct_isPart 1 = .ok (.iconst 0, 1) := by decide +kernel
theorem d_Ct_isPart_2 : decode b_Ct_isPart 2 = .ok (.aload_n 0, 1) := by decide +kernel
theorem d_Ct_isPart_3 : decode b_Ct_isPart 3 = .ok (.getfield 49, 3) := by decide +kernel
theorem d_Ct_isPart_6 : decode b_Ct_isPart 6 = .ok (.iconst 1, 1) := by decide +kernel
theorem d_Ct_isPart_7 : decode b_Ct_isPart 7 = .ok (.isub, 1) := by decide +kernel
theorem d_Ct_isPart_8 : decode b_Ct_isPart 8 = .ok (.invokestatic 68, 3) := by decide +kernel
theorem d_Ct_isPart_11 : decode b_Ct_isPart 11 = .ok (.ireturn, 1) := by decide +kernel
theorem d_Ct_choose_0 : decode b_Ct_choose 0 = .ok (.aload_n 0, 1) := by decide +kernel
theorem d_Ct_choose_1 : decode b_Ct_choose 1 = .ok (.getfield 38, 3) := by decide +kernel
theorem d_Ct_choose_4 : decode b_Ct_choose 4 = .ok (.invokevirtual 292, 3) := by decide +kernel
theorem d_Ct_choose_7 : decode b_Ct_choose 7 = .ok (.aload_n 0, 1) := by decide +kernel
theorem d_Ct_choose_8 : decode b_Ct_choose 8 = .ok (.invokevirtual 284, 3) := by decide +kernel
theorem d_Ct_choose_11 : decode b_Ct_choose 11 = .ok (.iconst 0, 1) := by decide +kernel
theorem d_Ct_choose_12 : decode b_Ct_choose 12 = .ok (.istore_n 3, 1) := by decide +kernel
theorem d_Ct_choose_13 : decode b_Ct_choose 13 = .ok (.iload_n 3, 1) := by decide +kernel
theorem d_Ct_choose_14 : decode b_Ct_choose 14 = .ok (.aload_n 0, 1) := by decide +kernel
theorem d_Ct_choose_15 : decode b_Ct_choose 15 = .ok (.getfield 49, 3) := by decide +kernel
theorem d_Ct_choose_18 : decode b_Ct_choose 18 = .ok (.if_icmp .ge 77, 3) := by decide +kernel
theorem d_Ct_choose_21 : decode b_Ct_choose 21 = .ok (.aload_n 0, 1) := by decide +kernel
theorem d_Ct_choose_22 : decode b_Ct_choose 22 = .ok (.getfield 38, 3) := by decide +kernel
theorem d_Ct_choose_25 : decode b_Ct_choose 25 = .ok (.invokevirtual 295, 3) := by decide +kernel
theorem d_Ct_choose_28 : decode b_Ct_choose 28 = .ok (.ifCond .ne 67, 3) := by decide +kernel
theorem d_Ct_choose_31 : decode b_Ct_choose 31 = .ok (.aload_n 0, 1) := by decide +kernel
theorem d_Ct_choose_32 : decode b_Ct_choose 32 = .ok (.getfield 22, 3) := by decide +kernel
theorem d_Ct_choose_35 : decode b_Ct_choose 35 = .ok (.iload_n 3, 1) := by decide +kernel
theorem d_Ct_choose_36 : decode b_Ct_choose 36 = .ok (.aaload, 1) := by decide +kernel
theorem d_Ct_choose_37 : decode b_Ct_choose 37 = .ok (.astore 4, 2) := by decide +kernel
theorem d_Ct_choose_39 : decode b_Ct_choose 39 = .ok (.aload 4, 2) := by decide +kernel
theorem d_Ct_choose_41 : decode b_Ct_choose 41 = .ok (.invokevirtual 278, 3) := by decide +kernel
theorem d_Ct_choose_44 : decode b_Ct_choose 44 = .ok (.iload_n 2, 1) := by decide +kernel
theorem d_Ct_choose_45 : decode b_Ct_choose 45 = .ok (.if_icmp .gt 44, 3) := by decide +kernel
theorem d_Ct_choose_48 : decode b_Ct_choose 48 = .ok (.aload_n 1, 1) := by decide +kernel
theorem d_Ct_choose_49 : decode b_Ct_choose 49 = .ok (.aload 4, 2) := by decide +kernel
theorem d_Ct_choose_51 : decode b_Ct_choose 51 = .ok (.getfield 237, 3) := by decide +kernel
theorem d_Ct_choose_54 : decode b_Ct_choose 54 = .ok (.invokevirtual 240, 3) := by decide +kernel
theorem d_Ct_choose_57 : decode b_Ct_choose 57 = .ok (.ifCond .eq 32, 3) := by decide +kernel
theorem d_Ct_choose_60 : decode b_Ct_choose 60 = .ok (.aload_n 0, 1) := by decide +kernel
theorem d_Ct_choose_61 : decode b_Ct_choose 61 = .ok (.getfield 10, 3) := by decide +kernel
theorem d_Ct_choose_64 : decode b_Ct_choose 64 = .ok (.aload_n 1, 1) := by decide +kernel
theorem d_Ct_choose_65 : decode b_Ct_choose 65 = .ok (.getfield 183, 3) := by decide +kernel
theorem d_Ct_choose_68 : decode b_Ct_choose 68 = .ok (.aload 4, 2) := by decide +kernel
theorem d_Ct_choose_70 : decode b_Ct_choose 70 = .ok (.getfield 251, 3) := by decide +kernel
theorem d_Ct_choose_73 : decode b_Ct_choose 73 = .ok (.invokevirtual 173, 3) := by decide +kernel
theorem d_Ct_choose_76 : decode b_Ct_choose 76 = .ok (.iconst (-1), 1) := by decide +kernel
theorem d_Ct_choose_77 : decode b_Ct_choose 77 = .ok (.if_icmp .eq 12, 3) := by decide +kernel
theorem d_Ct_choose_80 : decode b_Ct_choose 80 = .ok (.aload_n 0, 1) := by decide +kernel
theorem d_Ct_choose_81 : decode b_Ct_choose 81 = .ok (.getfield 38, 3) := by decide +kernel
theorem d_Ct_choose_84 : decode b_Ct_choose 84 = .ok (.aload 4, 2) := by decide +kernel
theorem d_Ct_choose_86 : decode b_Ct_choose 86 = .ok (.invokevirtual 299, 3) := by decide +kernel
theorem d_Ct_choose_89 : decode b_Ct_choose 89 = .ok (.iinc 3 1, 3) := by decide +kernel
theorem d_Ct_choose_92 : decode b_Ct_choose 92 = .ok (.goto (-79), 3) := by decide +kernel
theorem d_Ct_choose_95 : decode b_Ct_choose 95 = .ok (.return_, 1) := by decide +kernel
theorem d_Ct_rankByDueDays_0 : decode b_Ct_rankByDueDays 0 = .ok (.iconst 0, 1) := by decide +kernel
theorem d_Ct_rankByDueDays_1 : decode b_Ct_rankByDueDays 1 = .ok (.istore_n 1, 1) := by decide +kernel
theorem d_Ct_rankByDueDays_2 : decode b_Ct_rankByDueDays 2 = .ok (.iload_n 1, 1) := by decide +kernel
theorem d_Ct_rankByDueDays_3 : decode b_Ct_rankByDueDays 3 = .ok (.aload_n 0, 1) := by decide +kernel
theorem d_Ct_rankByDueDays_4 : decode b_Ct_rankByDueDays 4 = .ok (.getfield 49, 3) := by decide +kernel
theorem d_Ct_rankByDueDays_7 : decode b_Ct_rankByDueDays 7 = .ok (.if_icmp .ge 72, 3) := by decide +kernel
theorem d_Ct_rankByDueDays_10 : decode b_Ct_rankByDueDays 10 = .ok (.aload_n 0, 1) := by decide +kernel
theorem d_Ct_rankByDueDays_11 : decode b_Ct_rankByDueDays 11 = .ok (.getfield 18, 3) := by decide +kernel
theorem d_Ct_rankByDueDays_14 : decode b_Ct_rankByDueDays 14 = .ok (.iload_n 1, 1) := by decide +kernel
theorem d_Ct_rankByDueDays_15 : decode b_Ct_rankByDueDays 15 = .ok (.aaload, 1) := by decide +kernel
theorem d_Ct_rankByDueDays_16 : decode b_Ct_rankByDueDays 16 = .ok (.invokevirtual 278, 3) := by decide +kernel
theorem d_Ct_rankByDueDays_19 : decode b_Ct_rankByDueDays 19 = .ok (.istore_n 2, 1) := by decide +kernel
theorem d_Ct_rankByDueDays_20 : decode b_Ct_rankByDueDays 20 = .ok (.iload_n 1, 1) := by decide +kernel
theorem d_Ct_rankByDueDays_21 : decode b_Ct_rankByDueDays 21 = .ok (.istore_n 3, 1) := by decide +kernel
theorem d_Ct_rankByDueDays_22 : decode b_Ct_rankByDueDays 22 = .ok (.iload_n 3, 1) := by decide +kernel
theorem d_Ct_rankByDueDays_23 : decode b_Ct_rankByDueDays 23 = .ok (.ifCond .le 38, 3) := by decide +kernel
theorem d_Ct_rankByDueDays_26 : decode b_Ct_rankByDueDays 26 = .ok (.aload_n 0, 1) := by decide +kernel
theorem d_Ct_rankByDueDays_27 : decode b_Ct_rankByDueDays 27 = .ok (.getfield 22, 3) := by decide +kernel
theorem d_Ct_rankByDueDays_30 : decode b_Ct_rankByDueDays 30 = .ok (.iload_n 3, 1) := by decide +kernel
theorem d_Ct_rankByDueDays_31 : decode b_Ct_rankByDueDays 31 = .ok (.iconst 1, 1) := by decide +kernel
theorem d_Ct_rankByDueDays_32 : decode b_Ct_rankByDueDays 32 = .ok (.isub, 1) := by decide +kernel
theorem d_Ct_rankByDueDays_33 : decode b_Ct_rankByDueDays 33 = .ok (.aaload, 1) := by decide +kernel
theorem d_Ct_rankByDueDays_34 : decode b_Ct_rankByDueDays 34 = .ok (.invokevirtual 278, 3) := by decide +kernel
theorem d_Ct_rankByDueDays_37 : decode b_Ct_rankByDueDays 37 = .ok (.iload_n 2, 1) := by decide +kernel
theorem d_Ct_rankByDueDays_38 : decode b_Ct_rankByDueDays 38 = .ok (.if_icmp .le 23, 3) := by decide +kernel
theorem d_Ct_rankByDueDays_41 : decode b_Ct_rankByDueDays 41 = .ok (.aload_n 0, 1) := by decide +kernel
theorem d_Ct_rankByDueDays_42 : decode b_Ct_rankByDueDays 42 = .ok (.getfield 22, 3) := by decide +kernel
theorem d_Ct_rankByDueDays_45 : decode b_Ct_rankByDueDays 45 = .ok (.iload_n 3, 1) := by decide +kernel
theorem d_Ct_rankByDueDays_46 : decode b_Ct_rankByDueDays 46 = .ok (.aload_n 0, 1) := by decide +kernel
theorem d_Ct_rankByDueDays_47 : decode b_Ct_rankByDueDays 47 = .ok (.getfield 22, 3) := by decide +kernel
theorem d_Ct_rankByDueDays_50 : decode b_Ct_rankByDueDays 50 = .ok (.iload_n 3, 1) := by decide +kernel
theorem d_Ct_rankByDueDays_51 : decode b_Ct_rankByDueDays 51 = .ok (.iconst 1, 1) := by decide +kernel
theorem d_Ct_rankByDueDays_52 : decode b_Ct_rankByDueDays 52 = .ok (.isub, 1) := by decide +kernel
theorem d_Ct_rankByDueDays_53 : decode b_Ct_rankByDueDays 53 = .ok (.aaload, 1) := by decide +kernel
theorem d_Ct_rankByDueDays_54 : decode b_Ct_rankByDueDays 54 = .ok (.aastore, 1) := by decide +kernel
theorem d_Ct_rankByDueDays_55 : decode b_Ct_rankByDueDays 55 = .ok (.iinc 3 (-1), 3) := by decide +kernel
theorem d_Ct_rankByDueDays_58 : decode b_Ct_rankByDueDays 58 = .ok (.goto (-36), 3) := by decide +kernel
theorem d_Ct_rankByDueDays_61 : decode b_Ct_rankByDueDays 61 = .ok (.aload_n 0, 1) := by decide +kernel
theorem d_Ct_rankByDueDays_62 : decode b_Ct_rankByDueDays 62 = .ok (.getfield 22, 3) := by decide +kernel
theorem d_Ct_rankByDueDays_65 : decode b_Ct_rankByDueDays 65 = .ok (.iload_n 3, 1) := by decide +kernel
theorem d_Ct_rankByDueDays_66 : decode b_Ct_rankByDueDays 66 = .ok (.aload_n 0, 1) := by decide +kernel
theorem d_Ct_rankByDueDays_67 : decode b_Ct_rankByDueDays 67 = .ok (.getfield 18, 3) := by decide +kernel
theorem d_Ct_rankByDueDays_70 : decode b_Ct_rankByDueDays 70 = .ok (.iload_n 1, 1) := by decide +kernel
theorem d_Ct_rankByDueDays_71 : decode b_Ct_rankByDueDays 71 = .ok (.aaload, 1) := by decide +kernel
theorem d_Ct_rankByDueDays_72 : decode b_Ct_rankByDueDays 72 = .ok (.aastore, 1) := by decide +kernel
theorem d_Ct_rankByDueDays_73 : decode b_Ct_rankByDueDays 73 = .ok (.iinc 1 1, 3) := by decide +kernel
theorem d_Ct_rankByDueDays_76 : decode b_Ct_rankByDueDays 76 = .ok (.goto (-74), 3) := by decide +kernel
theorem d_Ct_rankByDueDays_79 : decode b_Ct_rankByDueDays 79 = .ok (.return_, 1) := by decide +kernel
theorem d_Ho_init_0 : decode b_Ho_init 0 = .ok (.aload_n 0, 1) := by decide +kernel
theorem d_Ho_init_1 : decode b_Ho_init 1 = .ok (.invokespecial 3, 3) := by decide +kernel
theorem d_Ho_init_4 : decode b_Ho_init 4 = .ok (.aload_n 0, 1) := by decide +kernel
theorem d_Ho_init_5 : decode b_Ho_init 5 = .ok (.bipush 30, 2) := by decide +kernel
theorem d_Ho_init_7 : decode b_Ho_init 7 = .ok (.anewarray 9, 3) := by decide +kernel
theorem d_Ho_init_10 : decode b_Ho_init 10 = .ok (.putfield 11, 3) := by decide +kernel
theorem d_Ho_init_13 : decode b_Ho_init 13 = .ok (.aload_n 0, 1) := by decide +kernel
theorem d_Ho_init_14 : decode b_Ho_init 14 = .ok (.bipush 6, 2) := by decide +kernel
theorem d_Ho_init_16 : decode b_Ho_init 16 = .ok (.anewarray 17, 3) := by decide +kernel
theorem d_Ho_init_19 : decode b_Ho_init 19 = .ok (.putfield 19, 3) := by decide +kernel
theorem d_Ho_init_22 : decode b_Ho_init 22 = .ok (.aload_n 0, 1) := by decide +kernel
theorem d_Ho_init_23 : decode b_Ho_init 23 = .ok (.iconst 0, 1) := by decide +kernel
theorem d_Ho_init_24 : decode b_Ho_init 24 = .ok (.putfield 23, 3) := by decide +kernel
theorem d_Ho_init_27 : decode b_Ho_init 27 = .ok (.aload_n 0, 1) := by decide +kernel
theorem d_Ho_init_28 : decode b_Ho_init 28 = .ok (.iconst 0, 1) := by decide +kernel
theorem d_Ho_init_29 : decode b_Ho_init 29 = .ok (.putfield 27, 3) := by decide +kernel
theorem d_Ho_init_32 : decode b_Ho_init 32 = .ok (.return_, 1) := by decide +kernel
theorem d_Ho_hasPlace_0 : decode b_Ho_hasPlace 0 = .ok (.iload_n 1, 1) := by decide +kernel
theorem d_Ho_hasPlace_1 : decode b_Ho_hasPlace 1 = .ok (.iconst 0, 1) := by decide +kernel
theorem d_Ho_hasPlace_2 : decode b_Ho_hasPlace 2 = .ok (.aload_n 0, 1) := by decide +kernel
theorem d_Ho_hasPlace_3 : decode b_Ho_hasPlace 3 = .ok (.getfield 23, 3) := by decide +kernel
theorem d_Ho_hasPlace_6 : decode b_Ho_hasPlace 6 = .ok (.iconst 1, 1) := by decide +kernel
theorem d_Ho_hasPlace_7 : decode b_Ho_hasPlace 7 = .ok (.isub, 1) := by decide +kernel
theorem d_Ho_hasPlace_8 : decode b_Ho_hasPlace 8 = .ok (.invokestatic 30, 3) := by decide +kernel
theorem d_Ho_hasPlace_11 : decode b_Ho_hasPlace 11 = .ok (.ireturn, 1) := by decide +kernel
theorem d_Ho_addPlace_0 : decode b_Ho_addPlace 0 = .ok (.aload_n 0, 1) := by decide +kernel
theorem d_Ho_addPlace_1 : decode b_Ho_addPlace 1 = .ok (.getfield 23, 3) := by decide +kernel
theorem d_Ho_addPlace_4 : decode b_Ho_addPlace 4 = .ok (.istore_n 2, 1) := by decide +kernel
theorem d_Ho_addPlace_5 : decode b_Ho_addPlace 5 = .ok (.aload_n 0, 1) := by decide +kernel
theorem d_Ho_addPlace_6 : decode b_Ho_addPlace 6 = .ok (.getfield 11, 3) := by decide +kernel
theorem d_Ho_addPlace_9 : decode b_Ho_addPlace 9 = .ok (.iload_n 2, 1) := by decide +kernel
theorem d_Ho_addPlace_10 : decode b_Ho_addPlace 10 = .ok (.aload_n 1, 1) := by decide +kernel
theorem d_Ho_addPlace_11 : decode b_Ho_addPlace 11 = .ok (.aastore, 1) := by decide +kernel
theorem d_Ho_addPlace_12 : decode b_Ho_addPlace 12 = .ok (.aload_n 0, 1) := by decide +kernel
theorem d_Ho_addPlace_13 : decode b_Ho_addPlace 13 = .ok (.dup, 1) := by decide +kernel
theorem d_Ho_addPlace_14 : decode b_Ho_addPlace 14 = .ok (.getfield 23, 3) := by decide +kernel
theorem d_Ho_addPlace_17 : decode b_Ho_addPlace 17 = .ok (.iconst 1, 1) := by decide +kernel
theorem d_Ho_addPlace_18 : decode b_Ho_addPlace 18 = .ok (.iadd, 1) := by decide +kernel
theorem d_Ho_addPlace_19 : decode b_Ho_addPlace 19 = .ok (.putfield 23, 3) := by decide +kernel
theorem d_Ho_addPlace_22 : decode b_Ho_addPlace 22 = .ok (.iload_n 2, 1) := by decide +kernel
theorem d_Ho_addPlace_23 : decode b_Ho_addPlace 23 = .ok (.ireturn, 1) := by decide +kernel
theorem d_Ho_addLift_0 : decode b_Ho_addLift 0 = .ok (.aload_n 0, 1) := by decide +kernel
theorem d_Ho_addLift_1 : decode b_Ho_addLift 1 = .ok (.getfield 27, 3) := by decide +kernel
theorem d_Ho_addLift_4 : decode b_Ho_addLift 4 = .ok (.istore_n 2, 1) := by decide +kernel
theorem d_Ho_addLift_5 : decode b_Ho_addLift 5 = .ok (.aload_n 0, 1) := by decide +kernel
theorem d_Ho_addLift_6 : decode b_Ho_addLift 6 = .ok (.getfield 19, 3) := by decide +kernel
theorem d_Ho_addLift_9 : decode b_Ho_addLift 9 = .ok (.iload_n 2, 1) := by decide +kernel
theorem d_Ho_addLift_10 : decode b_Ho_addLift 10 = .ok (.aload_n 1, 1) := by decide +kernel
theorem d_Ho_addLift_11 : decode b_Ho_addLift 11 = .ok (.aastore, 1) := by decide +kernel
theorem d_Ho_addLift_12 : decode b_Ho_addLift 12 = .ok (.aload_n 0, 1) := by decide +kernel
theorem d_Ho_addLift_13 : decode b_Ho_addLift 13 = .ok (.dup, 1) := by decide +kernel
theorem d_Ho_addLift_14 : decode b_Ho_addLift 14 = .ok (.getfield 27, 3) := by decide +kernel
theorem d_Ho_addLift_17 : decode b_Ho_addLift 17 = .ok (.iconst 1, 1) := by decide +kernel
theorem d_Ho_addLift_18 : decode b_Ho_addLift 18 = .ok (.iadd, 1) := by decide +kernel
theorem d_Ho_addLift_19 : decode b_Ho_addLift 19 = .ok (.putfield 27, 3) := by decide +kernel
theorem d_Ho_addLift_22 : decode b_Ho_addLift 22 = .ok (.iload_n 2, 1) := by decide +kernel
theorem d_Ho_addLift_23 : decode b_Ho_addLift 23 = .ok (.ireturn, 1) := by decide +kernel
theorem d_Ho_secondsBetween_0 : decode b_Ho_secondsBetween 0 = .ok (.aload_n 1, 1) := by decide +kernel
theorem d_Ho_secondsBetween_1 : decode b_Ho_secondsBetween 1 = .ok (.getfield 34, 3) := by decide +kernel
theorem d_Ho_secondsBetween_4 : decode b_Ho_secondsBetween 4 = .ok (.aload_n 2, 1) := by decide +kernel
theorem d_Ho_secondsBetween_5 : decode b_Ho_secondsBetween 5 = .ok (.getfield 34, 3) := by decide +kernel
theorem d_Ho_secondsBetween_8 : decode b_Ho_secondsBetween 8 = .ok (.if_icmp .ne 16, 3) := by decide +kernel
theorem d_Ho_secondsBetween_11 : decode b_Ho_secondsBetween 11 = .ok (.aload_n 1, 1) := by decide +kernel
theorem d_Ho_secondsBetween_12 : decode b_Ho_secondsBetween 12 = .ok (.aload_n 2, 1) := by decide +kernel
theorem d_Ho_secondsBetween_13 : decode b_Ho_secondsBetween 13 = .ok (.getfield 37, 3) := by decide +kernel
theorem d_Ho_secondsBetween_16 : decode b_Ho_secondsBetween 16 = .ok (.aload_n 2, 1) := by decide +kernel
theorem d_Ho_secondsBetween_17 : decode b_Ho_secondsBetween 17 = .ok (.getfield 40, 3) := by decide +kernel
theorem d_Ho_secondsBetween_20 : decode b_Ho_secondsBetween 20 = .ok (.invokevirtual 43, 3) := by decide +kernel
theorem d_Ho_secondsBetween_23 : decode b_Ho_secondsBetween 23 = .ok (.ireturn, 1) := by decide +kernel
theorem d_Ho_secondsBetween_24 : decode b_Ho_secondsBetween 24 = .ok (.iconst (-1), 1) := by decide +kernel
theorem d_Ho_secondsBetween_25 : decode b_Ho_secondsBetween 25 = .ok (.istore_n 3, 1) := by decide +kernel
theorem d_Ho_secondsBetween_26 : decode b_Ho_secondsBetween 26 = .ok (.iconst 0, 1) := by decide +kernel
theorem d_Ho_secondsBetween_27 : decode b_Ho_secondsBetween 27 = .ok (.istore 4, 2) := by decide +kernel
theorem d_Ho_secondsBetween_29 : decode b_Ho_secondsBetween 29 = .ok (.iload 4, 2) := by decide +kernel
theorem d_Ho_secondsBetween_31 : decode b_Ho_secondsBetween 31 = .ok (.aload_n 0, 1) := by decide +kernel
theorem d_Ho_secondsBetween_32 : decode b_Ho_secondsBetween 32 = .ok (.getfield 27, 3) := by decide +kernel
theorem d_Ho_secondsBetween_35 : decode b_Ho_secondsBetween 35 = .ok (.if_icmp .ge 68, 3) := by decide +kernel
theorem d_Ho_secondsBetween_38 : decode b_Ho_secondsBetween 38 = .ok (.aload_n 0, 1) := by decide +kernel
theorem d_Ho_secondsBetween_39 : decode b_Ho_secondsBetween 39 = .ok (.getfield 19, 3) := by decide +kernel
theorem d_Ho_secondsBetween_42 : decode b_Ho_secondsBetween 42 = .ok (.iload 4, 2) := by decide +kernel
theorem d_Ho_secondsBetween_44 : decode b_Ho_secondsBetween 44 = .ok (.aaload, 1) := by decide +kernel
theorem d_Ho_secondsBetween_45 : decode b_Ho_secondsBetween 45 = .ok (.aload_n 1, 1) := by decide +kernel
theorem d_Ho_secondsBetween_46 : decode b_Ho_secondsBetween 46 = .ok (.invokevirtual 47, 3) := by decide +kernel
theorem d_Ho_secondsBetween_49 : decode b_Ho_secondsBetween 49 = .ok (.ifCond .eq 48, 3) := by decide +kernel
theorem d_Ho_secondsBetween_52 : decode b_Ho_secondsBetween 52 = .ok (.aload_n 0, 1) := by decide +kernel
theorem d_Ho_secondsBetween_53 : decode b_Ho_secondsBetween 53 = .ok (.getfield 19, 3) := by decide +kernel
theorem d_Ho_secondsBetween_56 : decode b_Ho_secondsBetween 56 = .ok (.iload 4, 2) := by decide +kernel
theorem d_Ho_secondsBetween_58 : decode b_Ho_secondsBetween 58 = .ok (.aaload, 1) := by decide +kernel
theorem d_Ho_secondsBetween_59 : decode b_Ho_secondsBetween 59 = .ok (.aload_n 2, 1) := by decide +kernel
theorem d_Ho_secondsBetween_60 : decode b_Ho_secondsBetween 60 = .ok (.invokevirtual 47, 3) := by decide +kernel
theorem d_Ho_secondsBetween_63 : decode b_Ho_secondsBetween 63 = .ok (.ifCond .eq 34, 3) := by decide +kernel
theorem d_Ho_secondsBetween_66 : decode b_Ho_secondsBetween 66 = .ok (.aload_n 0, 1) := by decide +kernel
theorem d_Ho_secondsBetween_67 : decode b_Ho_secondsBetween 67 = .ok (.getfield 19, 3) := by decide +kernel
theorem d_Ho_secondsBetween_70 : decode b_Ho_secondsBetween 70 = .ok (.iload 4, 2) := by decide +kernel
theorem d_Ho_secondsBetween_72 : decode b_Ho_secondsBetween 72 = .ok (.aaload, 1) := by decide +kernel
theorem d_Ho_secondsBetween_73 : decode b_Ho_secondsBetween 73 = .ok (.aload_n 1, 1) := by decide +kernel
theorem d_Ho_secondsBetween_74 : decode b_Ho_secondsBetween 74 = .ok (.aload_n 2, 1) := by decide +kernel
theorem d_Ho_secondsBetween_75 : decode b_Ho_secondsBetween 75 = .ok (.invokevirtual 51, 3) := by decide +kernel
theorem d_Ho_secondsBetween_78 : decode b_Ho_secondsBetween 78 = .ok (.istore 5, 2) := by decide +kernel
theorem d_Ho_secondsBetween_80 : decode b_Ho_secondsBetween 80 = .ok (.iload_n 3, 1) := by decide +kernel
theorem d_Ho_secondsBetween_81 : decode b_Ho_secondsBetween 81 = .ok (.iconst (-1), 1) := by decide +kernel
theorem d_Ho_secondsBetween_82 : decode b_Ho_secondsBetween 82 = .ok (.if_icmp .ne 8, 3) := by decide +kernel
theorem d_Ho_secondsBetween_85 : decode b_Ho_secondsBetween 85 = .ok (.iload 5, 2) := by decide +kernel
theorem d_Ho_secondsBetween_87 : decode b_Ho_secondsBetween 87 = .ok (.goto 9, 3) := by decide +kernel
theorem d_Ho_secondsBetween_90 : decode b_Ho_secondsBetween 90 = .ok (.iload_n 3, 1) := by decide +kernel
theorem d_Ho_secondsBetween_91 : decode b_Ho_secondsBetween 91 = .ok (.iload 5, 2) := by decide +kernel
theorem d_Ho_secondsBetween_93 : decode b_Ho_secondsBetween 93 = .ok (.invokestatic 55, 3) := by decide +kernel
theorem d_Ho_secondsBetween_96 : decode b_Ho_secondsBetween 96 = .ok (.istore_n 3, 1) := by decide +kernel
theorem d_Ho_secondsBetween_97 : decode b_Ho_secondsBetween 97 = .ok (.iinc 4 1, 3) := by decide +kernel
theorem d_Ho_secondsBetween_100 : decode b_Ho_secondsBetween 100 = .ok (.goto (-71), 3) := by decide +kernel
theorem d_Ho_secondsBetween_103 : decode b_Ho_secondsBetween 103 = .ok (.iload_n 3, 1) := by decide +kernel
theorem d_Ho_secondsBetween_104 : decode b_Ho_secondsBetween 104 = .ok (.ireturn, 1) := by decide +kernel
theorem d_Li_init_0 : decode b_Li_init 0 = .ok (.aload_n 0, 1) := by decide +kernel
theorem d_Li_init_1 : decode b_Li_init 1 = .ok (.invokespecial 1, 3) := by decide +kernel
theorem d_Li_init_4 : decode b_Li_init 4 = .ok (.aload_n 0, 1) := by decide +kernel
theorem d_Li_init_5 : decode b_Li_init 5 = .ok (.iload_n 1, 1) := by decide +kernel
theorem d_Li_init_6 : decode b_Li_init 6 = .ok (.putfield 7, 3) := by decide +kernel
theorem d_Li_init_9 : decode b_Li_init 9 = .ok (.aload_n 0, 1) := by decide +kernel
theorem d_Li_init_10 : decode b_Li_init 10 = .ok (.iload_n 2, 1) := by decide +kernel
theorem d_Li_init_11 : decode b_Li_init 11 = .ok (.putfield 13, 3) := by decide +kernel
theorem d_Li_init_14 : decode b_Li_init 14 = .ok (.aload_n 0, 1) := by decide +kernel
theorem d_Li_init_15 : decode b_Li_init 15 = .ok (.iload_n 3, 1) := by decide +kernel
theorem d_Li_init_16 : decode b_Li_init 16 = .ok (.putfield 16, 3) := by decide +kernel
theorem d_Li_init_19 : decode b_Li_init 19 = .ok (.aload_n 0, 1) := by decide +kernel
theorem d_Li_init_20 : decode b_Li_init 20 = .ok (.iload 4, 2) := by decide +kernel
theorem d_Li_init_22 : decode b_Li_init 22 = .ok (.putfield 19, 3) := by decide +kernel
theorem d_Li_init_25 : decode b_Li_init 25 = .ok (.aload_n 0, 1) := by decide +kernel
theorem d_Li_init_26 : decode b_Li_init 26 = .ok (.iload 5, 2) := by decide +kernel
theorem d_Li_init_28 : decode b_Li_init 28 = .ok (.putfield 22, 3) := by decide +kernel
theorem d_Li_init_31 : decode b_Li_init 31 = .ok (.aload_n 0, 1) := by decide +kernel
theorem d_Li_init_32 : decode b_Li_init 32 = .ok (.iload 6, 2) := by decide +kernel
theorem d_Li_init_34 : decode b_Li_init 34 = .ok (.putfield 25, 3) := by decide +kernel
theorem d_Li_init_37 : decode b_Li_init 37 = .ok (.return_, 1) := by decide +kernel
theorem d_Li_comesTo_0 : decode b_Li_comesTo 0 = .ok (.aload_n 1, 1) := by decide +kernel
theorem d_Li_comesTo_1 : decode b_Li_comesTo 1 = .ok (.getfield 28, 3) := by decide +kernel
theorem d_Li_comesTo_4 : decode b_Li_comesTo 4 = .ok (.aload_n 0, 1) := by decide +kernel
theorem d_Li_comesTo_5 : decode b_Li_comesTo 5 = .ok (.getfield 16, 3) := by decide +kernel
theorem d_Li_comesTo_8 : decode b_Li_comesTo 8 = .ok (.aload_n 0, 1) := by decide +kernel
theorem d_Li_comesTo_9 : decode b_Li_comesTo 9 = .ok (.getfield 19, 3) := by decide +kernel
theorem d_Li_comesTo_12 : decode b_Li_comesTo 12 = .ok (.invokestatic 33, 3) := by decide +kernel
theorem d_Li_comesTo_15 : decode b_Li_comesTo 15 = .ok (.ireturn, 1) := by decide +kernel
theorem d_Li_secondsBetween_0 : decode b_Li_secondsBetween 0 = .ok (.aload_n 0, 1) := by decide +kernel
theorem d_Li_secondsBetween_1 : decode b_Li_secondsBetween 1 = .ok (.getfield 22, 3) := by decide +kernel
theorem d_Li_secondsBetween_4 : decode b_Li_secondsBetween 4 = .ok (.aload_n 0, 1) := by decide +kernel
theorem d_Li_secondsBetween_5 : decode b_Li_secondsBetween 5 = .ok (.getfield 25, 3) := by decide +kernel
theorem d_Li_secondsBetween_8 : decode b_Li_secondsBetween 8 = .ok (.aload_n 1, 1) := by decide +kernel
theorem d_Li_secondsBetween_9 : decode b_Li_secondsBetween 9 = .ok (.getfield 28, 3) := by decide +kernel
theorem d_Li_secondsBetween_12 : decode b_Li_secondsBetween 12 = .ok (.aload_n 2, 1) := by decide +kernel
theorem d_Li_secondsBetween_13 : decode b_Li_secondsBetween 13 = .ok (.getfield 28, 3) := by decide +kernel
theorem d_Li_secondsBetween_16 : decode b_Li_secondsBetween 16 = .ok (.isub, 1) := by decide +kernel
theorem d_Li_secondsBetween_17 : decode b_Li_secondsBetween 17 = .ok (.invokestatic 39, 3) := by decide +kernel
theorem d_Li_secondsBetween_20 : decode b_Li_secondsBetween 20 = .ok (.imul, 1) := by decide +kernel
theorem d_Li_secondsBetween_21 : decode b_Li_secondsBetween 21 = .ok (.iadd, 1) := by decide +kernel
theorem d_Li_secondsBetween_22 : decode b_Li_secondsBetween 22 = .ok (.istore_n 3, 1) := by decide +kernel
theorem d_Li_secondsBetween_23 : decode b_Li_secondsBetween 23 = .ok (.aload_n 1, 1) := by decide +kernel
theorem d_Li_secondsBetween_24 : decode b_Li_secondsBetween 24 = .ok (.aload_n 0, 1) := by decide +kernel
theorem d_Li_secondsBetween_25 : decode b_Li_secondsBetween 25 = .ok (.getfield 7, 3) := by decide +kernel
theorem d_Li_secondsBetween_28 : decode b_Li_secondsBetween 28 = .ok (.aload_n 0, 1) := by decide +kernel
theorem d_Li_secondsBetween_29 : decode b_Li_secondsBetween 29 = .ok (.getfield 13, 3) := by decide +kernel
theorem d_Li_secondsBetween_32 : decode b_Li_secondsBetween 32 = .ok (.invokevirtual 45, 3) := by decide +kernel
theorem d_Li_secondsBetween_35 : decode b_Li_secondsBetween 35 = .ok (.iload_n 3, 1) := by decide +kernel
theorem d_Li_secondsBetween_36 : decode b_Li_secondsBetween 36 = .ok (.iadd, 1) := by decide +kernel
theorem d_Li_secondsBetween_37 : decode b_Li_secondsBetween 37 = .ok (.aload_n 2, 1) := by decide +kernel
theorem d_Li_secondsBetween_38 : decode b_Li_secondsBetween 38 = .ok (.aload_n 0, 1) := by decide +kernel
theorem d_Li_secondsBetween_39 : decode b_Li_secondsBetween 39 = .ok (.getfield 7, 3) := by decide +kernel
theorem d_Li_secondsBetween_42 : decode b_Li_secondsBetween 42 = .ok (.aload_n 0, 1) := by decide +kernel
theorem d_Li_secondsBetween_43 : decode b_Li_secondsBetween 43 = .ok (.getfield 13, 3) := by decide +kernel
theorem d_Li_secondsBetween_46 : decode b_Li_secondsBetween 46 = .ok (.invokevirtual 45, 3) := by decide +kernel
theorem d_Li_secondsBetween_49 : decode b_Li_secondsBetween 49 = .ok (.iadd, 1) := by decide +kernel
theorem d_Li_secondsBetween_50 : decode b_Li_secondsBetween 50 = .ok (.ireturn, 1) := by decide +kernel
theorem d_Pt_init_0 : decode b_Pt_init 0 = .ok (.aload_n 0, 1) := by decide +kernel
theorem d_Pt_init_1 : decode b_Pt_init 1 = .ok (.invokespecial 3, 3) := by decide +kernel
theorem d_Pt_init_4 : decode b_Pt_init 4 = .ok (.aload_n 0, 1) := by decide +kernel
theorem d_Pt_init_5 : decode b_Pt_init 5 = .ok (.iconst 0, 1) := by decide +kernel
theorem d_Pt_init_6 : decode b_Pt_init 6 = .ok (.putfield 9, 3) := by decide +kernel
theorem d_Pt_init_9 : decode b_Pt_init 9 = .ok (.aload_n 0, 1) := by decide +kernel
theorem d_Pt_init_10 : decode b_Pt_init 10 = .ok (.iconst 0, 1) := by decide +kernel
theorem d_Pt_init_11 : decode b_Pt_init 11 = .ok (.putfield 15, 3) := by decide +kernel
theorem d_Pt_init_14 : decode b_Pt_init 14 = .ok (.aload_n 0, 1) := by decide +kernel
theorem d_Pt_init_15 : decode b_Pt_init 15 = .ok (.iconst 0, 1) := by decide +kernel
theorem d_Pt_init_16 : decode b_Pt_init 16 = .ok (.putfield 18, 3) := by decide +kernel
theorem d_Pt_init_19 : decode b_Pt_init 19 = .ok (.aload_n 0, 1) := by decide +kernel
theorem d_Pt_init_20 : decode b_Pt_init 20 = .ok (.iconst (-1), 1) := by decide +kernel
theorem d_Pt_init_21 : decode b_Pt_init 21 = .ok (.putfield 21, 3) := by decide +kernel
theorem d_Pt_init_24 : decode b_Pt_init 24 = .ok (.aload_n 0, 1) := by decide +kernel
theorem d_Pt_init_25 : decode b_Pt_init 25 = .ok (.iload_n 1, 1) := by decide +kernel
theorem d_Pt_init_26 : decode b_Pt_init 26 = .ok (.putfield 24, 3) := by decide +kernel
theorem d_Pt_init_29 : decode b_Pt_init 29 = .ok (.aload_n 0, 1) := by decide +kernel
theorem d_Pt_init_30 : decode b_Pt_init 30 = .ok (.aload_n 2, 1) := by decide +kernel
theorem d_Pt_init_31 : decode b_Pt_init 31 = .ok (.putfield 27, 3) := by decide +kernel
theorem d_Pt_init_34 : decode b_Pt_init 34 = .ok (.aload_n 0, 1) := by decide +kernel
theorem d_Pt_init_35 : decode b_Pt_init 35 = .ok (.iload_n 3, 1) := by decide +kernel
theorem d_Pt_init_36 : decode b_Pt_init 36 = .ok (.putfield 31, 3) := by decide +kernel
theorem d_Pt_init_39 : decode b_Pt_init 39 = .ok (.aload_n 0, 1) := by decide +kernel
theorem d_Pt_init_40 : decode b_Pt_init 40 = .ok (.iload 4, 2) := by decide +kernel
theorem d_Pt_init_42 : decode b_Pt_init 42 = .ok (.putfield 34, 3) := by decide +kernel
theorem d_Pt_init_45 : decode b_Pt_init 45 = .ok (.aload_n 0, 1) := by decide +kernel
theorem d_Pt_init_46 : decode b_Pt_init 46 = .ok (.iload 5, 2) := by decide +kernel
theorem d_Pt_init_48 : decode b_Pt_init 48 = .ok (.putfield 37, 3) := by decide +kernel
theorem d_Pt_init_51 : decode b_Pt_init 51 = .ok (.aload_n 0, 1) := by decide +kernel
theorem d_Pt_init_52 : decode b_Pt_init 52 = .ok (.iload 6, 2) := by decide +kernel
theorem d_Pt_init_54 : decode b_Pt_init 54 = .ok (.putfield 40, 3) := by decide +kernel
theorem d_Pt_init_57 : decode b_Pt_init 57 = .ok (.aload_n 0, 1) := by decide +kernel
theorem d_Pt_init_58 : decode b_Pt_init 58 = .ok (.iload 7, 2) := by decide +kernel
theorem d_Pt_init_60 : decode b_Pt_init 60 = .ok (.putfield 43, 3) := by decide +kernel
theorem d_Pt_init_63 : decode b_Pt_init 63 = .ok (.return_, 1) := by decide +kernel
theorem d_Pt_dueDay_0 : decode b_Pt_dueDay 0 = .ok (.aload_n 0, 1) := by decide +kernel
theorem d_Pt_dueDay_1 : decode b_Pt_dueDay 1 = .ok (.getfield 9, 3) := by decide +kernel
theorem d_Pt_dueDay_4 : decode b_Pt_dueDay 4 = .ok (.aload_n 0, 1) := by decide +kernel
theorem d_Pt_dueDay_5 : decode b_Pt_dueDay 5 = .ok (.getfield 37, 3) := by decide +kernel
theorem d_Pt_dueDay_8 : decode b_Pt_dueDay 8 = .ok (.iadd, 1) := by decide +kernel
theorem d_Pt_dueDay_9 : decode b_Pt_dueDay 9 = .ok (.istore_n 1, 1) := by decide +kernel
theorem d_Pt_dueDay_10 : decode b_Pt_dueDay 10 = .ok (.aload_n 0, 1) := by decide +kernel
theorem d_Pt_dueDay_11 : decode b_Pt_dueDay 11 = .ok (.getfield 21, 3) := by decide +kernel
theorem d_Pt_dueDay_14 : decode b_Pt_dueDay 14 = .ok (.iconst (-1), 1) := by decide +kernel
theorem d_Pt_dueDay_15 : decode b_Pt_dueDay 15 = .ok (.if_icmp .ne 7, 3) := by decide +kernel
theorem d_Pt_dueDay_18 : decode b_Pt_dueDay 18 = .ok (.iload_n 1, 1) := by decide +kernel
theorem d_Pt_dueDay_19 : decode b_Pt_dueDay 19 = .ok (.goto 11, 3) := by decide +kernel
theorem d_Pt_dueDay_22 : decode b_Pt_dueDay 22 = .ok (.iload_n 1, 1) := by decide +kernel
theorem d_Pt_dueDay_23 : decode b_Pt_dueDay 23 = .ok (.aload_n 0, 1) := by decide +kernel
theorem d_Pt_dueDay_24 : decode b_Pt_dueDay 24 = .ok (.getfield 21, 3) := by decide +kernel
theorem d_Pt_dueDay_27 : decode b_Pt_dueDay 27 = .ok (.invokestatic 46, 3) := by decide +kernel
theorem d_Pt_dueDay_30 : decode b_Pt_dueDay 30 = .ok (.ireturn, 1) := by decide +kernel
theorem d_Pt_addUse_0 : decode b_Pt_addUse 0 = .ok (.aload_n 0, 1) := by decide +kernel
theorem d_Pt_addUse_1 : decode b_Pt_addUse 1 = .ok (.dup, 1) := by decide +kernel
theorem d_Pt_addUse_2 : decode b_Pt_addUse 2 = .ok (.getfield 15, 3) := by decide +kernel
theorem d_Pt_addUse_5 : decode b_Pt_addUse 5 = .ok (.iload_n 2, 1) := by decide +kernel
theorem d_Pt_addUse_6 : decode b_Pt_addUse 6 = .ok (.iadd, 1) := by decide +kernel
theorem d_Pt_addUse_7 : decode b_Pt_addUse 7 = .ok (.putfield 15, 3) := by decide +kernel
theorem d_Pt_addUse_10 : decode b_Pt_addUse 10 = .ok (.aload_n 0, 1) := by decide +kernel
theorem d_Pt_addUse_11 : decode b_Pt_addUse 11 = .ok (.iload_n 1, 1) := by decide +kernel
theorem d_Pt_addUse_12 : decode b_Pt_addUse 12 = .ok (.putfield 18, 3) := by decide +kernel
theorem d_Pt_addUse_15 : decode b_Pt_addUse 15 = .ok (.aload_n 0, 1) := by decide +kernel
theorem d_Pt_addUse_16 : decode b_Pt_addUse 16 = .ok (.getfield 21, 3) := by decide +kernel
theorem d_Pt_addUse_19 : decode b_Pt_addUse 19 = .ok (.iconst (-1), 1) := by decide +kernel
theorem d_Pt_addUse_20 : decode b_Pt_addUse 20 = .ok (.if_icmp .ne 19, 3) := by decide +kernel
theorem d_Pt_addUse_23 : decode b_Pt_addUse 23 = .ok (.aload_n 0, 1) := by decide +kernel
theorem d_Pt_addUse_24 : decode b_Pt_addUse 24 = .ok (.getfield 15, 3) := by decide +kernel
theorem d_Pt_addUse_27 : decode b_Pt_addUse 27 = .ok (.aload_n 0, 1) := by decide +kernel
theorem d_Pt_addUse_28 : decode b_Pt_addUse 28 = .ok (.getfield 40, 3) := by decide +kernel
theorem d_Pt_addUse_31 : decode b_Pt_addUse 31 = .ok (.if_icmp .lt 8, 3) := by decide +kernel
theorem d_Pt_addUse_34 : decode b_Pt_addUse 34 = .ok (.aload_n 0, 1) := by decide +kernel
theorem d_Pt_addUse_35 : decode b_Pt_addUse 35 = .ok (.iload_n 1, 1) := by decide +kernel
theorem d_Pt_addUse_36 : decode b_Pt_addUse 36 = .ok (.putfield 21, 3) := by decide +kernel
theorem d_Pt_addUse_39 : decode b_Pt_addUse 39 = .ok (.return_, 1) := by decide +kernel
theorem d_Pt_renew_0 : decode b_Pt_renew 0 = .ok (.aload_n 0, 1) := by decide +kernel
theorem d_Pt_renew_1 : decode b_Pt_renew 1 = .ok (.iload_n 1, 1) := by decide +kernel
theorem d_Pt_renew_2 : decode b_Pt_renew 2 = .ok (.putfield 9, 3) := by decide +kernel
theorem d_Pt_renew_5 : decode b_Pt_renew 5 = .ok (.aload_n 0, 1) := by decide +kernel
theorem d_Pt_renew_6 : decode b_Pt_renew 6 = .ok (.iconst 0, 1) := by decide +kernel
theorem d_Pt_renew_7 : decode b_Pt_renew 7 = .ok (.putfield 15, 3) := by decide +kernel
theorem d_Pt_renew_10 : decode b_Pt_renew 10 = .ok (.aload_n 0, 1) := by decide +kernel
theorem d_Pt_renew_11 : decode b_Pt_renew 11 = .ok (.iload_n 1, 1) := by decide +kernel
theorem d_Pt_renew_12 : decode b_Pt_renew 12 = .ok (.putfield 18, 3) := by decide +kernel
theorem d_Pt_renew_15 : decode b_Pt_renew 15 = .ok (.aload_n 0, 1) := by decide +kernel
theorem d_Pt_renew_16 : decode b_Pt_renew 16 = .ok (.iconst (-1), 1) := by decide +kernel
theorem d_Pt_renew_17 : decode b_Pt_renew 17 = .ok (.putfield 21, 3) := by decide +kernel
theorem d_Pt_renew_20 : decode b_Pt_renew 20 = .ok (.return_, 1) := by decide +kernel
theorem d_Pe_init_0 : decode b_Pe_init 0 = .ok (.aload_n 0, 1) := by decide +kernel
theorem d_Pe_init_1 : decode b_Pe_init 1 = .ok (.invokespecial 1, 3) := by decide +kernel
theorem d_Pe_init_4 : decode b_Pe_init 4 = .ok (.aload_n 0, 1) := by decide +kernel
theorem d_Pe_init_5 : decode b_Pe_init 5 = .ok (.iload_n 1, 1) := by decide +kernel
theorem d_Pe_init_6 : decode b_Pe_init 6 = .ok (.putfield 7, 3) := by decide +kernel
theorem d_Pe_init_9 : decode b_Pe_init 9 = .ok (.aload_n 0, 1) := by decide +kernel
theorem d_Pe_init_10 : decode b_Pe_init 10 = .ok (.iload_n 2, 1) := by decide +kernel
theorem d_Pe_init_11 : decode b_Pe_init 11 = .ok (.putfield 13, 3) := by decide +kernel
theorem d_Pe_init_14 : decode b_Pe_init 14 = .ok (.aload_n 0, 1) := by decide +kernel
theorem d_Pe_init_15 : decode b_Pe_init 15 = .ok (.aload_n 3, 1) := by decide +kernel
theorem d_Pe_init_16 : decode b_Pe_init 16 = .ok (.putfield 16, 3) := by decide +kernel
theorem d_Pe_init_19 : decode b_Pe_init 19 = .ok (.aload_n 0, 1) := by decide +kernel
theorem d_Pe_init_20 : decode b_Pe_init 20 = .ok (.iload 4, 2) := by decide +kernel
theorem d_Pe_init_22 : decode b_Pe_init 22 = .ok (.putfield 20, 3) := by decide +kernel
theorem d_Pe_init_25 : decode b_Pe_init 25 = .ok (.return_, 1) := by decide +kernel
theorem d_Pe_has_0 : decode b_Pe_has 0 = .ok (.aload_n 0, 1) := by decide +kernel
theorem d_Pe_has_1 : decode b_Pe_has 1 = .ok (.getfield 13, 3) := by decide +kernel
theorem d_Pe_has_4 : decode b_Pe_has 4 = .ok (.iload_n 1, 1) := by decide +kernel
theorem d_Pe_has_5 : decode b_Pe_has 5 = .ok (.ishr, 1) := by decide +kernel
theorem d_Pe_has_6 : decode b_Pe_has 6 = .ok (.iconst 1, 1) := by decide +kernel
theorem d_Pe_has_7 : decode b_Pe_has 7 = .ok (.iand, 1) := by decide +kernel
theorem d_Pe_has_8 : decode b_Pe_has 8 = .ok (.iconst 1, 1) := by decide +kernel
theorem d_Pe_has_9 : decode b_Pe_has 9 = .ok (.if_icmp .ne 7, 3) := by decide +kernel
theorem d_Pe_has_12 : decode b_Pe_has 12 = .ok (.iconst 1, 1) := by decide +kernel
theorem d_Pe_has_13 : decode b_Pe_has 13 = .ok (.goto 4, 3) := by decide +kernel
theorem d_Pe_has_16 : decode b_Pe_has 16 = .ok (.iconst 0, 1) := by decide +kernel
theorem d_Pe_has_17 : decode b_Pe_has 17 = .ok (.ireturn, 1) := by decide +kernel
theorem d_Pl_init_0 : decode b_Pl_init 0 = .ok (.aload_n 0, 1) := by decide +kernel
theorem d_Pl_init_1 : decode b_Pl_init 1 = .ok (.invokespecial 1, 3) := by decide +kernel
theorem d_Pl_init_4 : decode b_Pl_init 4 = .ok (.aload_n 0, 1) := by decide +kernel
theorem d_Pl_init_5 : decode b_Pl_init 5 = .ok (.iload_n 1, 1) := by decide +kernel
theorem d_Pl_init_6 : decode b_Pl_init 6 = .ok (.putfield 7, 3) := by decide +kernel
theorem d_Pl_init_9 : decode b_Pl_init 9 = .ok (.aload_n 0, 1) := by decide +kernel
theorem d_Pl_init_10 : decode b_Pl_init 10 = .ok (.iload_n 2, 1) := by decide +kernel
theorem d_Pl_init_11 : decode b_Pl_init 11 = .ok (.putfield 13, 3) := by decide +kernel
theorem d_Pl_init_14 : decode b_Pl_init 14 = .ok (.aload_n 0, 1) := by decide +kernel
theorem d_Pl_init_15 : decode b_Pl_init 15 = .ok (.iload_n 3, 1) := by decide +kernel
theorem d_Pl_init_16 : decode b_Pl_init 16 = .ok (.putfield 16, 3) := by decide +kernel
theorem d_Pl_init_19 : decode b_Pl_init 19 = .ok (.return_, 1) := by decide +kernel
theorem d_Pl_secondsTo_0 : decode b_Pl_secondsTo 0 = .ok (.aload_n 0, 1) := by decide +kernel
theorem d_Pl_secondsTo_1 : decode b_Pl_secondsTo 1 = .ok (.getfield 13, 3) := by decide +kernel
theorem d_Pl_secondsTo_4 : decode b_Pl_secondsTo 4 = .ok (.iload_n 1, 1) := by decide +kernel
theorem d_Pl_secondsTo_5 : decode b_Pl_secondsTo 5 = .ok (.isub, 1) := by decide +kernel
theorem d_Pl_secondsTo_6 : decode b_Pl_secondsTo 6 = .ok (.invokestatic 19, 3) := by decide +kernel
theorem d_Pl_secondsTo_9 : decode b_Pl_secondsTo 9 = .ok (.aload_n 0, 1) := by decide +kernel
theorem d_Pl_secondsTo_10 : decode b_Pl_secondsTo 10 = .ok (.getfield 16, 3) := by decide +kernel
theorem d_Pl_secondsTo_13 : decode b_Pl_secondsTo 13 = .ok (.iload_n 2, 1) := by decide +kernel
theorem d_Pl_secondsTo_14 : decode b_Pl_secondsTo 14 = .ok (.isub, 1) := by decide +kernel
theorem d_Pl_secondsTo_15 : decode b_Pl_secondsTo 15 = .ok (.invokestatic 19, 3) := by decide +kernel
theorem d_Pl_secondsTo_18 : decode b_Pl_secondsTo 18 = .ok (.iadd, 1) := by decide +kernel
theorem d_Pl_secondsTo_19 : decode b_Pl_secondsTo 19 = .ok (.ireturn, 1) := by decide +kernel
theorem d_Pn_init_0 : decode b_Pn_init 0 = .ok (.aload_n 0, 1) := by decide +kernel
theorem d_Pn_init_1 : decode b_Pn_init 1 = .ok (.invokespecial 5, 3) := by decide +kernel
theorem d_Pn_init_4 : decode b_Pn_init 4 = .ok (.aload_n 0, 1) := by decide +kernel
theorem d_Pn_init_5 : decode b_Pn_init 5 = .ok (.bipush 7, 2) := by decide +kernel
theorem d_Pn_init_7 : decode b_Pn_init 7 = .ok (.anewarray 11, 3) := by decide +kernel
theorem d_Pn_init_10 : decode b_Pn_init 10 = .ok (.putfield 13, 3) := by decide +kernel
theorem d_Pn_init_13 : decode b_Pn_init 13 = .ok (.aload_n 0, 1) := by decide +kernel
theorem d_Pn_init_14 : decode b_Pn_init 14 = .ok (.bipush 64, 2) := by decide +kernel
theorem d_Pn_init_16 : decode b_Pn_init 16 = .ok (.newarray .int, 2) := by decide +kernel
theorem d_Pn_init_18 : decode b_Pn_init 18 = .ok (.putfield 17, 3) := by decide +kernel
theorem d_Pn_init_21 : decode b_Pn_init 21 = .ok (.aload_n 0, 1) := by decide +kernel
theorem d_Pn_init_22 : decode b_Pn_init 22 = .ok (.sipush 1024, 3) := by decide +kernel
theorem d_Pn_init_25 : decode b_Pn_init 25 = .ok (.newarray .int, 2) := by decide +kernel
theorem d_Pn_init_27 : decode b_Pn_init 27 = .ok (.putfield 21, 3) := by decide +kernel
theorem d_Pn_init_30 : decode b_Pn_init 30 = .ok (.aload_n 0, 1) := by decide +kernel
theorem d_Pn_init_31 : decode b_Pn_init 31 = .ok (.iconst 0, 1) := by decide +kernel
theorem d_Pn_init_32 : decode b_Pn_init 32 = .ok (.putfield 24, 3) := by decide +kernel
theorem d_Pn_init_35 : decode b_Pn_init 35 = .ok (.return_, 1) := by decide +kernel
theorem d_Pn_clear_0 : decode b_Pn_clear 0 = .ok (.aload_n 0, 1) := by decide +kernel
theorem d_Pn_clear_1 : decode b_Pn_clear 1 = .ok (.iconst 0, 1) := by decide +kernel
theorem d_Pn_clear_2 : decode b_Pn_clear 2 = .ok (.putfield 24, 3) := by decide +kernel
theorem d_Pn_clear_5 : decode b_Pn_clear 5 = .ok (.return_, 1) := by decide +kernel
theorem d_Pn_isFull_0 : decode b_Pn_isFull 0 = .ok (.aload_n 0, 1) := by decide +kernel
theorem d_Pn_isFull_1 : decode b_Pn_isFull 1 = .ok (.getfield 24, 3) := by decide +kernel
theorem d_Pn_isFull_4 : decode b_Pn_isFull 4 = .ok (.bipush 7, 2) := by decide +kernel
theorem d_Pn_isFull_6 : decode b_Pn_isFull 6 = .ok (.if_icmp .lt 7, 3) := by decide +kernel
theorem d_Pn_isFull_9 : decode b_Pn_isFull 9 = .ok (.iconst 1, 1) := by decide +kernel
theorem d_Pn_isFull_10 : decode b_Pn_isFull 10 = .ok (.goto 4, 3) := by decide +kernel
theorem d_Pn_isFull_13 : decode b_Pn_isFull 13 = .ok (.iconst 0, 1) := by decide +kernel
theorem d_Pn_isFull_14 : decode b_Pn_isFull 14 = .ok (.ireturn, 1) := by decide +kernel
theorem d_Pn_add_0 : decode b_Pn_add 0 = .ok (.aload_n 0, 1) := by decide +kernel
theorem d_Pn_add_1 : decode b_Pn_add 1 = .ok (.getfield 13, 3) := by decide +kernel
theorem d_Pn_add_4 : decode b_Pn_add 4 = .ok (.aload_n 0, 1) := by decide +kernel
theorem d_Pn_add_5 : decode b_Pn_add 5 = .ok (.getfield 24, 3) := by decide +kernel
theorem d_Pn_add_8 : decode b_Pn_add 8 = .ok (.aload_n 1, 1) := by decide +kernel
theorem d_Pn_add_9 : decode b_Pn_add 9 = .ok (.aastore, 1) := by decide +kernel
theorem d_Pn_add_10 : decode b_Pn_add 10 = .ok (.aload_n 0, 1) := by decide +kernel
theorem d_Pn_add_11 : decode b_Pn_add 11 = .ok (.dup, 1) := by decide +kernel
theorem d_Pn_add_12 : decode b_Pn_add 12 = .ok (.getfield 24, 3) := by decide +kernel
theorem d_Pn_add_15 : decode b_Pn_add 15 = .ok (.iconst 1, 1) := by decide +kernel
theorem d_Pn_add_16 : decode b_Pn_add 16 = .ok (.iadd, 1) := by decide +kernel
theorem d_Pn_add_17 : decode b_Pn_add 17 = .ok (.putfield 24, 3) := by decide +kernel
theorem d_Pn_add_20 : decode b_Pn_add 20 = .ok (.return_, 1) := by decide +kernel
theorem d_Pn_measure_0 : decode b_Pn_measure 0 = .ok (.iconst 0, 1) := by decide +kernel
theorem d_Pn_measure_1 : decode b_Pn_measure 1 = .ok (.istore_n 3, 1) := by decide +kernel
theorem d_Pn_measure_2 : decode b_Pn_measure 2 = .ok (.iload_n 3, 1) := by decide +kernel
theorem d_Pn_measure_3 : decode b_Pn_measure 3 = .ok (.aload_n 0, 1) := by decide +kernel
theorem d_Pn_measure_4 : decode b_Pn_measure 4 = .ok (.getfield 24, 3) := by decide +kernel
theorem d_Pn_measure_7 : decode b_Pn_measure 7 = .ok (.if_icmp .ge 103, 3) := by decide +kernel
theorem d_Pn_measure_10 : decode b_Pn_measure 10 = .ok (.aload_n 1, 1) := by decide +kernel
theorem d_Pn_measure_11 : decode b_Pn_measure 11 = .ok (.aload_n 2, 1) := by decide +kernel
theorem d_Pn_measure_12 : decode b_Pn_measure 12 = .ok (.aload_n 0, 1) := by decide +kernel
theorem d_Pn_measure_13 : decode b_Pn_measure 13 = .ok (.getfield 13, 3) := by decide +kernel
theorem d_Pn_measure_16 : decode b_Pn_measure 16 = .ok (.iload_n 3, 1) := by decide +kernel
theorem d_Pn_measure_17 : decode b_Pn_measure 17 = .ok (.aaload, 1) := by decide +kernel
theorem d_Pn_measure_18 : decode b_Pn_measure 18 = .ok (.getfield 28, 3) := by decide +kernel
theorem d_Pn_measure_21 : decode b_Pn_measure 21 = .ok (.invokestatic 32, 3) := by decide +kernel
theorem d_Pn_measure_24 : decode b_Pn_measure 24 = .ok (.istore 4, 2) := by decide +kernel
theorem d_Pn_measure_26 : decode b_Pn_measure 26 = .ok (.aload_n 0, 1) := by decide +kernel
theorem d_Pn_measure_27 : decode b_Pn_measure 27 = .ok (.getfield 17, 3) := by decide +kernel
theorem d_Pn_measure_30 : decode b_Pn_measure 30 = .ok (.bipush 56, 2) := by decide +kernel
theorem d_Pn_measure_32 : decode b_Pn_measure 32 = .ok (.iload_n 3, 1) := by decide +kernel
theorem d_Pn_measure_33 : decode b_Pn_measure 33 = .ok (.iadd, 1) := by decide +kernel
theorem d_Pn_measure_34 : decode b_Pn_measure 34 = .ok (.iload 4, 2) := by decide +kernel
theorem d_Pn_measure_36 : decode b_Pn_measure 36 = .ok (.iastore, 1) := by decide +kernel
theorem d_Pn_measure_37 : decode b_Pn_measure 37 = .ok (.aload_n 0, 1) := by decide +kernel
theorem d_Pn_measure_38 : decode b_Pn_measure 38 = .ok (.getfield 17, 3) := by decide +kernel
theorem d_Pn_measure_41 : decode b_Pn_measure 41 = .ok (.iload_n 3, 1) := by decide +kernel
theorem d_Pn_measure_42 : decode b_Pn_measure 42 = .ok (.bipush 8, 2) := by decide +kernel
theorem d_Pn_measure_44 : decode b_Pn_measure 44 = .ok (.imul, 1) := by decide +kernel
theorem d_Pn_measure_45 : decode b_Pn_measure 45 = .ok (.bipush 7, 2) := by decide +kernel
theorem d_Pn_measure_47 : decode b_Pn_measure 47 = .ok (.iadd, 1) := by decide +kernel
theorem d_Pn_measure_48 : decode b_Pn_measure 48 = .ok (.iload 4, 2) := by decide +kernel
theorem d_Pn_measure_50 : decode b_Pn_measure 50 = .ok (.iastore, 1) := by decide +kernel
theorem d_Pn_measure_51 : decode b_Pn_measure 51 = .ok (.iconst 0, 1) := by decide +kernel
theorem d_Pn_measure_52 : decode b_Pn_measure 52 = .ok (.istore 5, 2) := by decide +kernel
theorem d_Pn_measure_54 : decode b_Pn_measure 54 = .ok (.iload 5, 2) := by decide +kernel
theorem d_Pn_measure_56 : decode b_Pn_measure 56 = .ok (.aload_n 0, 1) := by decide +kernel
theorem d_Pn_measure_57 : decode b_Pn_measure 57 = .ok (.getfield 24, 3) := by decide +kernel
theorem d_Pn_measure_60 : decode b_Pn_measure 60 = .ok (.if_icmp .ge 44, 3) := by decide +kernel
theorem d_Pn_measure_63 : decode b_Pn_measure 63 = .ok (.aload_n 0, 1) := by decide +kernel
theorem d_Pn_measure_64 : decode b_Pn_measure 64 = .ok (.getfield 17, 3) := by decide +kernel
theorem d_Pn_measure_67 : decode b_Pn_measure 67 = .ok (.iload_n 3, 1) := by decide +kernel
theorem d_Pn_measure_68 : decode b_Pn_measure 68 = .ok (.bipush 8, 2) := by decide +kernel
theorem d_Pn_measure_70 : decode b_Pn_measure 70 = .ok (.imul, 1) := by decide +kernel
theorem d_Pn_measure_71 : decode b_Pn_measure 71 = .ok (.iload 5, 2) := by decide +kernel
theorem d_Pn_measure_73 : decode b_Pn_measure 73 = .ok (.iadd, 1) := by decide +kernel
theorem d_Pn_measure_74 : decode b_Pn_measure 74 = .ok (.aload_n 1, 1) := by decide +kernel
theorem d_Pn_measure_75 : decode b_Pn_measure 75 = .ok (.aload_n 0, 1) := by decide +kernel
theorem d_Pn_measure_76 : decode b_Pn_measure 76 = .ok (.getfield 13, 3) := by decide +kernel
theorem d_Pn_measure_79 : decode b_Pn_measure 79 = .ok (.iload_n 3, 1) := by decide +kernel
theorem d_Pn_measure_80 : decode b_Pn_measure 80 = .ok (.aaload, 1) := by decide +kernel
theorem d_Pn_measure_81 : decode b_Pn_measure 81 = .ok (.getfield 28, 3) := by decide +kernel
theorem d_Pn_measure_84 : decode b_Pn_measure 84 = .ok (.aload_n 0, 1) := by decide +kernel
theorem d_Pn_measure_85 : decode b_Pn_measure 85 = .ok (.getfield 13, 3) := by decide +kernel
theorem d_Pn_measure_88 : decode b_Pn_measure 88 = .ok (.iload 5, 2) := by decide +kernel
theorem d_Pn_measure_90 : decode b_Pn_measure 90 = .ok (.aaload, 1) := by decide +kernel
theorem d_Pn_measure_91 : decode b_Pn_measure 91 = .ok (.getfield 28, 3) := by decide +kernel
theorem d_Pn_measure_94 : decode b_Pn_measure 94 = .ok (.invokestatic 32, 3) := by decide +kernel
theorem d_Pn_measure_97 : decode b_Pn_measure 97 = .ok (.iastore, 1) := by decide +kernel
theorem d_Pn_measure_98 : decode b_Pn_measure 98 = .ok (.iinc 5 1, 3) := by decide +kernel
theorem d_Pn_measure_101 : decode b_Pn_measure 101 = .ok (.goto (-47), 3) := by decide +kernel
theorem d_Pn_measure_104 : decode b_Pn_measure 104 = .ok (.iinc 3 1, 3) := by decide +kernel
theorem d_Pn_measure_107 : decode b_Pn_measure 107 = .ok (.goto (-105), 3) := by decide +kernel
theorem d_Pn_measure_110 : decode b_Pn_measure 110 = .ok (.return_, 1) := by decide +kernel
theorem d_Pn_legOf_0 : decode b_Pn_legOf 0 = .ok (.aload_n 0, 1) := by decide +kernel
theorem d_Pn_legOf_1 : decode b_Pn_legOf 1 = .ok (.aload_n 1, 1) := by decide +kernel
theorem d_Pn_legOf_2 : decode b_Pn_legOf 2 = .ok (.aload_n 2, 1) := by decide +kernel
theorem d_Pn_legOf_3 : decode b_Pn_legOf 3 = .ok (.invokevirtual 36, 3) := by decide +kernel
theorem d_Pn_legOf_6 : decode b_Pn_legOf 6 = .ok (.istore_n 3, 1) := by decide +kernel
theorem d_Pn_legOf_7 : decode b_Pn_legOf 7 = .ok (.iload_n 3, 1) := by decide +kernel
theorem d_Pn_legOf_8 : decode b_Pn_legOf 8 = .ok (.iconst (-1), 1) := by decide +kernel
theorem d_Pn_legOf_9 : decode b_Pn_legOf 9 = .ok (.if_icmp .ne 8, 3) := by decide +kernel
theorem d_Pn_legOf_12 : decode b_Pn_legOf 12 = .ok (.ldc 42, 2) := by decide +kernel
theorem d_Pn_legOf_14 : decode b_Pn_legOf 14 = .ok (.goto 4, 3) := by decide +kernel
theorem d_Pn_legOf_17 : decode b_Pn_legOf 17 = .ok (.iload_n 3, 1) := by decide +kernel
theorem d_Pn_legOf_18 : decode b_Pn_legOf 18 = .ok (.ireturn, 1) := by decide +kernel
theorem d_Pn_plan_0 : decode b_Pn_plan 0 = .ok (.iconst 0, 1) := by decide +kernel
theorem d_Pn_plan_1 : decode b_Pn_plan 1 = .ok (.istore_n 1, 1) := by decide +kernel
theorem d_Pn_plan_2 : decode b_Pn_plan 2 = .ok (.iload_n 1, 1) := by decide +kernel
theorem d_Pn_plan_3 : decode b_Pn_plan 3 = .ok (.iconst 1, 1) := by decide +kernel
theorem d_Pn_plan_4 : decode b_Pn_plan 4 = .ok (.aload_n 0, 1) := by decide +kernel
theorem d_Pn_plan_5 : decode b_Pn_plan 5 = .ok (.getfield 24, 3) := by decide +kernel
theorem d_Pn_plan_8 : decode b_Pn_plan 8 = .ok (.ishl, 1) := by decide +kernel
theorem d_Pn_plan_9 : decode b_Pn_plan 9 = .ok (.if_icmp .ge 69, 3) := by decide +kernel
theorem d_Pn_plan_12 : decode b_Pn_plan 12 = .ok (.iconst 0, 1) := by decide +kernel
theorem d_Pn_plan_13 : decode b_Pn_plan 13 = .ok (.istore_n 2, 1) := by decide +kernel
theorem d_Pn_plan_14 : decode b_Pn_plan 14 = .ok (.iload_n 2, 1) := by decide +kernel
theorem d_Pn_plan_15 : decode b_Pn_plan 15 = .ok (.aload_n 0, 1) := by decide +kernel
theorem d_Pn_plan_16 : decode b_Pn_plan 16 = .ok (.getfield 24, 3) := by decide +kernel
theorem d_Pn_plan_19 : decode b_Pn_plan 19 = .ok (.if_icmp .ge 34, 3) := by decide +kernel
theorem d_Pn_plan_22 : decode b_Pn_plan 22 = .ok (.iload_n 2, 1) := by decide +kernel
theorem d_Pn_plan_23 : decode b_Pn_plan 23 = .ok (.iload_n 1, 1) := by decide +kernel
theorem d_Pn_plan_24 : decode b_Pn_plan 24 = .ok (.invokestatic 43, 3) := by decide +kernel
theorem d_Pn_plan_27 : decode b_Pn_plan 27 = .ok (.ifCond .ne 20, 3) := by decide +kernel
theorem d_Pn_plan_30 : decode b_Pn_plan 30 = .ok (.aload_n 0, 1) := by decide +kernel
theorem d_Pn_plan_31 : decode b_Pn_plan 31 = .ok (.getfield 21, 3) := by decide +kernel
theorem d_Pn_plan_34 : decode b_Pn_plan 34 = .ok (.iload_n 1, 1) := by decide +kernel
theorem d_Pn_plan_35 : decode b_Pn_plan 35 = .ok (.bipush 8, 2) := by decide +kernel
theorem d_Pn_plan_37 : decode b_Pn_plan 37 = .ok (.imul, 1) := by decide +kernel
theorem d_Pn_plan_38 : decode b_Pn_plan 38 = .ok (.iload_n 2, 1) := by decide +kernel
theorem d_Pn_plan_39 : decode b_Pn_plan 39 = .ok (.iadd, 1) := by decide +kernel
theorem d_Pn_plan_40 : decode b_Pn_plan 40 = .ok (.aload_n 0, 1) := by decide +kernel
theorem d_Pn_plan_41 : decode b_Pn_plan 41 = .ok (.iload_n 2, 1) := by decide +kernel
theorem d_Pn_plan_42 : decode b_Pn_plan 42 = .ok (.iload_n 1, 1) := by decide +kernel
theorem d_Pn_plan_43 : decode b_Pn_plan 43 = .ok (.invokevirtual 47, 3) := by decide +kernel
theorem d_Pn_plan_46 : decode b_Pn_plan 46 = .ok (.iastore, 1) := by decide +kernel
theorem d_Pn_plan_47 : decode b_Pn_plan 47 = .ok (.iinc 2 1, 3) := by decide +kernel
theorem d_Pn_plan_50 : decode b_Pn_plan 50 = .ok (.goto (-36), 3) := by decide +kernel
theorem d_Pn_plan_53 : decode b_Pn_plan 53 = .ok (.aload_n 0, 1) := by decide +kernel
theorem d_Pn_plan_54 : decode b_Pn_plan 54 = .ok (.getfield 21, 3) := by decide +kernel
theorem d_Pn_plan_57 : decode b_Pn_plan 57 = .ok (.iload_n 1, 1) := by decide +kernel
theorem d_Pn_plan_58 : decode b_Pn_plan 58 = .ok (.bipush 8, 2) := by decide +kernel
theorem d_Pn_plan_60 : decode b_Pn_plan 60 = .ok (.imul, 1) := by decide +kernel
theorem d_Pn_plan_61 : decode b_Pn_plan 61 = .ok (.bipush 7, 2) := by decide +kernel
theorem d_Pn_plan_63 : decode b_Pn_plan 63 = .ok (.iadd, 1) := by decide +kernel
theorem d_Pn_plan_64 : decode b_Pn_plan 64 = .ok (.aload_n 0, 1) := by decide +kernel
theorem d_Pn_plan_65 : decode b_Pn_plan 65 = .ok (.bipush 7, 2) := by decide +kernel
theorem d_Pn_plan_67 : decode b_Pn_plan 67 = .ok (.iload_n 1, 1) := by decide +kernel
theorem d_Pn_plan_68 : decode b_Pn_plan 68 = .ok (.invokevirtual 47, 3) := by decide +kernel
theorem d_Pn_plan_71 : decode b_Pn_plan 71 = .ok (.iastore, 1) := by decide +kernel
theorem d_Pn_plan_72 : decode b_Pn_plan 72 = .ok (.iinc 1 1, 3) := by decide +kernel
theorem d_Pn_plan_75 : decode b_Pn_plan 75 = .ok (.goto (-73), 3) := by decide +kernel
theorem d_Pn_plan_78 : decode b_Pn_plan 78 = .ok (.return_, 1) := by decide +kernel
theorem d_Pn_leastRest_0 : decode b_Pn_leastRest 0 = .ok (.iload_n 2, 1) := by decide +kernel
theorem d_Pn_leastRest_1 : decode b_Pn_leastRest 1 = .ok (.ifCond .ne 16, 3) := by decide +kernel
theorem d_Pn_leastRest_4 : decode b_Pn_leastRest 4 = .ok (.aload_n 0, 1) := by decide +kernel
theorem d_Pn_leastRest_5 : decode b_Pn_leastRest 5 = .ok (.getfield 17, 3) := by decide +kernel
theorem d_Pn_leastRest_8 : decode b_Pn_leastRest 8 = .ok (.iload_n 1, 1) := by decide +kernel
theorem d_Pn_leastRest_9 : decode b_Pn_leastRest 9 = .ok (.bipush 8, 2) := by decide +kernel
theorem d_Pn_leastRest_11 : decode b_Pn_leastRest 11 = .ok (.imul, 1) := by decide +kernel
theorem d_Pn_leastRest_12 : decode b_Pn_leastRest 12 = .ok (.bipush 7, 2) := by decide +kernel
theorem d_Pn_leastRest_14 : decode b_Pn_leastRest 14 = .ok (.iadd, 1) := by decide +kernel
theorem d_Pn_leastRest_15 : decode b_Pn_leastRest 15 = .ok (.iaload, 1) := by decide +kernel
theorem d_Pn_leastRest_16 : decode b_Pn_leastRest 16 = .ok (.ireturn, 1) := by decide +kernel
theorem d_Pn_leastRest_17 : decode b_Pn_leastRest 17 = .ok (.ldc 42, 2) := by decide +kernel
theorem d_Pn_leastRest_19 : decode b_Pn_leastRest 19 = .ok (.istore_n 3, 1) := by decide +kernel
theorem d_Pn_leastRest_20 : decode b_Pn_leastRest 20 = .ok (.iconst 0, 1) := by decide +kernel
theorem d_Pn_leastRest_21 : decode b_Pn_leastRest 21 = .ok (.istore 4, 2) := by decide +kernel
theorem d_Pn_leastRest_23 : decode b_Pn_leastRest 23 = .ok (.iload 4, 2) := by decide +kernel
theorem d_Pn_leastRest_25 : decode b_Pn_leastRest 25 = .ok (.aload_n 0, 1) := by decide +kernel
theorem d_Pn_leastRest_26 : decode b_Pn_leastRest 26 = .ok (.getfield 24, 3) := by decide +kernel
theorem d_Pn_leastRest_29 : decode b_Pn_leastRest 29 = .ok (.if_icmp .ge 31, 3) := by decide +kernel
theorem d_Pn_leastRest_32 : decode b_Pn_leastRest 32 = .ok (.iload 4, 2) := by decide +kernel
theorem d_Pn_leastRest_34 : decode b_Pn_leastRest 34 = .ok (.iload_n 2, 1) := by decide +kernel
theorem d_Pn_leastRest_35 : decode b_Pn_leastRest 35 = .ok (.invokestatic 43, 3) := by decide +kernel
theorem d_Pn_leastRest_38 : decode b_Pn_leastRest 38 = .ok (.ifCond .eq 16, 3) := by decide +kernel
theorem d_Pn_leastRest_41 : decode b_Pn_leastRest 41 = .ok (.iload_n 3, 1) := by decide +kernel
theorem d_Pn_leastRest_42 : decode b_Pn_leastRest 42 = .ok (.aload_n 0, 1) := by decide +kernel
theorem d_Pn_leastRest_43 : decode b_Pn_leastRest 43 = .ok (.iload_n 1, 1) := by decide +kernel
theorem d_Pn_leastRest_44 : decode b_Pn_leastRest 44 = .ok (.iload 4, 2) := by decide +kernel
theorem d_Pn_leastRest_46 : decode b_Pn_leastRest 46 = .ok (.iload_n 2, 1) := by decide +kernel
theorem d_Pn_leastRest_47 : decode b_Pn_leastRest 47 = .ok (.invokevirtual 51, 3) := by decide +kernel
theorem d_Pn_leastRest_50 : decode b_Pn_leastRest 50 = .ok (.invokestatic 55, 3) := by decide +kernel
theorem d_Pn_leastRest_53 : decode b_Pn_leastRest 53 = .ok (.istore_n 3, 1) := by decide +kernel
theorem d_Pn_leastRest_54 : decode b_Pn_leastRest 54 = .ok (.iinc 4 1, 3) := by decide +kernel
theorem d_Pn_leastRest_57 : decode b_Pn_leastRest 57 = .ok (.goto (-34), 3) := by decide +kernel
theorem d_Pn_leastRest_60 : decode b_Pn_leastRest 60 = .ok (.iload_n 3, 1) := by decide +kernel
theorem d_Pn_leastRest_61 : decode b_Pn_leastRest 61 = .ok (.ireturn, 1) := by decide +kernel
theorem d_Pn_restBy_0 : decode b_Pn_restBy 0 = .ok (.aload_n 0, 1) := by decide +kernel
theorem d_Pn_restBy_1 : decode b_Pn_restBy 1 = .ok (.getfield 17, 3) := by decide +kernel
theorem d_Pn_restBy_4 : decode b_Pn_restBy 4 = .ok (.iload_n 1, 1) := by decide +kernel
theorem d_Pn_restBy_5 : decode b_Pn_restBy 5 = .ok (.bipush 8, 2) := by decide +kernel
theorem d_Pn_restBy_7 : decode b_Pn_restBy 7 = .ok (.imul, 1) := by decide +kernel
theorem d_Pn_restBy_8 : decode b_Pn_restBy 8 = .ok (.iload_n 2, 1) := by decide +kernel
theorem d_Pn_restBy_9 : decode b_Pn_restBy 9 = .ok (.iadd, 1) := by decide +kernel
theorem d_Pn_restBy_10 : decode b_Pn_restBy 10 = .ok (.iaload, 1) := by decide +kernel
theorem d_Pn_restBy_11 : decode b_Pn_restBy 11 = .ok (.aload_n 0, 1) := by decide +kernel
theorem d_Pn_restBy_12 : decode b_Pn_restBy 12 = .ok (.getfield 21, 3) := by decide +kernel
theorem d_Pn_restBy_15 : decode b_Pn_restBy 15 = .ok (.iload_n 3, 1) := by decide +kernel
theorem d_Pn_restBy_16 : decode b_Pn_restBy 16 = .ok (.iconst 1, 1) := by decide +kernel
theorem d_Pn_restBy_17 : decode b_Pn_restBy 17 = .ok (.iload_n 2, 1) := by decide +kernel
theorem d_Pn_restBy_18 : decode b_Pn_restBy 18 = .ok (.ishl, 1) := by decide +kernel
theorem d_Pn_restBy_19 : decode b_Pn_restBy 19 = .ok (.isub, 1) := by decide +kernel
theorem d_Pn_restBy_20 : decode b_Pn_restBy 20 = .ok (.bipush 8, 2) := by decide +kernel
theorem d_Pn_restBy_22 : decode b_Pn_restBy 22 = .ok (.imul, 1) := by decide +kernel
theorem d_Pn_restBy_23 : decode b_Pn_restBy 23 = .ok (.iload_n 2, 1) := by decide +kernel
theorem d_Pn_restBy_24 : decode b_Pn_restBy 24 = .ok (.iadd, 1) := by decide +kernel
theorem d_Pn_restBy_25 : decode b_Pn_restBy 25 = .ok (.iaload, 1) := by decide +kernel
theorem d_Pn_restBy_26 : decode b_Pn_restBy 26 = .ok (.iadd, 1) := by decide +kernel
theorem d_Pn_restBy_27 : decode b_Pn_restBy 27 = .ok (.ireturn, 1) := by decide +kernel
theorem d_Pn_isIn_0 : decode b_Pn_isIn 0 = .ok (.iload_n 1, 1) := by decide +kernel
theorem d_Pn_isIn_1 : decode b_Pn_isIn 1 = .ok (.iload_n 0, 1) := by decide +kernel
theorem d_Pn_isIn_2 : decode b_Pn_isIn 2 = .ok (.ishr, 1) := by decide +kernel
theorem d_Pn_isIn_3 : decode b_Pn_isIn 3 = .ok (.iconst 1, 1) := by decide +kernel
theorem d_Pn_isIn_4 : decode b_Pn_isIn 4 = .ok (.iand, 1) := by decide +kernel
theorem d_Pn_isIn_5 : decode b_Pn_isIn 5 = .ok (.iconst 1, 1) := by decide +kernel
theorem d_Pn_isIn_6 : decode b_Pn_isIn 6 = .ok (.if_icmp .ne 7, 3) := by decide +kernel
theorem d_Pn_isIn_9 : decode b_Pn_isIn 9 = .ok (.iconst 1, 1) := by decide +kernel
theorem d_Pn_isIn_10 : decode b_Pn_isIn 10 = .ok (.goto 4, 3) := by decide +kernel
theorem d_Pn_isIn_13 : decode b_Pn_isIn 13 = .ok (.iconst 0, 1) := by decide +kernel
theorem d_Pn_isIn_14 : decode b_Pn_isIn 14 = .ok (.ireturn, 1) := by decide +kernel
theorem d_Pn_firstOnes_0 : decode b_Pn_firstOnes 0 = .ok (.iconst 1, 1) := by decide +kernel
theorem d_Pn_firstOnes_1 : decode b_Pn_firstOnes 1 = .ok (.iload_n 0, 1) := by decide +kernel
theorem d_Pn_firstOnes_2 : decode b_Pn_firstOnes 2 = .ok (.ishl, 1) := by decide +kernel
theorem d_Pn_firstOnes_3 : decode b_Pn_firstOnes 3 = .ok (.iconst 1, 1) := by decide +kernel
theorem d_Pn_firstOnes_4 : decode b_Pn_firstOnes 4 = .ok (.isub, 1) := by decide +kernel
theorem d_Pn_firstOnes_5 : decode b_Pn_firstOnes 5 = .ok (.ireturn, 1) := by decide +kernel
theorem d_Pn_leastWalks_0 : decode b_Pn_leastWalks 0 = .ok (.aload_n 0, 1) := by decide +kernel
theorem d_Pn_leastWalks_1 : decode b_Pn_leastWalks 1 = .ok (.getfield 21, 3) := by decide +kernel
theorem d_Pn_leastWalks_4 : decode b_Pn_leastWalks 4 = .ok (.iload_n 1, 1) := by decide +kernel
theorem d_Pn_leastWalks_5 : decode b_Pn_leastWalks 5 = .ok (.invokestatic 60, 3) := by decide +kernel
theorem d_Pn_leastWalks_8 : decode b_Pn_leastWalks 8 = .ok (.bipush 8, 2) := by decide +kernel
theorem d_Pn_leastWalks_10 : decode b_Pn_leastWalks 10 = .ok (.imul, 1) := by decide +kernel
theorem d_Pn_leastWalks_11 : decode b_Pn_leastWalks 11 = .ok (.bipush 7, 2) := by decide +kernel
theorem d_Pn_leastWalks_13 : decode b_Pn_leastWalks 13 = .ok (.iadd, 1) := by decide +kernel
theorem d_Pn_leastWalks_14 : decode b_Pn_leastWalks 14 = .ok (.iaload, 1) := by decide +kernel
theorem d_Pn_leastWalks_15 : decode b_Pn_leastWalks 15 = .ok (.ireturn, 1) := by decide +kernel
theorem d_Pn_stopsWithin_0 : decode b_Pn_stopsWithin 0 = .ok (.iconst 0, 1) := by decide +kernel
theorem d_Pn_stopsWithin_1 : decode b_Pn_stopsWithin 1 = .ok (.istore_n 2, 1) := by decide +kernel
theorem d_Pn_stopsWithin_2 : decode b_Pn_stopsWithin 2 = .ok (.iconst 0, 1) := by decide +kernel
theorem d_Pn_stopsWithin_3 : decode b_Pn_stopsWithin 3 = .ok (.istore_n 3, 1) := by decide +kernel
theorem d_Pn_stopsWithin_4 : decode b_Pn_stopsWithin 4 = .ok (.iload_n 3, 1) := by decide +kernel
theorem d_Pn_stopsWithin_5 : decode b_Pn_stopsWithin 5 = .ok (.aload_n 0, 1) := by decide +kernel
theorem d_Pn_stopsWithin_6 : decode b_Pn_stopsWithin 6 = .ok (.getfield 24, 3) := by decide +kernel
theorem d_Pn_stopsWithin_9 : decode b_Pn_stopsWithin 9 = .ok (.if_icmp .ge 21, 3) := by decide +kernel
theorem d_Pn_stopsWithin_12 : decode b_Pn_stopsWithin 12 = .ok (.iload_n 2, 1) := by decide +kernel
theorem d_Pn_stopsWithin_13 : decode b_Pn_stopsWithin 13 = .ok (.aload_n 0, 1) := by decide +kernel
theorem d_Pn_stopsWithin_14 : decode b_Pn_stopsWithin 14 = .ok (.getfield 13, 3) := by decide +kernel
theorem d_Pn_stopsWithin_17 : decode b_Pn_stopsWithin 17 = .ok (.iload_n 3, 1) := by decide +kernel
theorem d_Pn_stopsWithin_18 : decode b_Pn_stopsWithin 18 = .ok (.aaload, 1) := by decide +kernel
theorem d_Pn_stopsWithin_19 : decode b_Pn_stopsWithin 19 = .ok (.getfield 64, 3) := by decide +kernel
theorem d_Pn_stopsWithin_22 : decode b_Pn_stopsWithin 22 = .ok (.iadd, 1) := by decide +kernel
theorem d_Pn_stopsWithin_23 : decode b_Pn_stopsWithin 23 = .ok (.istore_n 2, 1) := by decide +kernel
theorem d_Pn_stopsWithin_24 : decode b_Pn_stopsWithin 24 = .ok (.iinc 3 1, 3) := by decide +kernel
theorem d_Pn_stopsWithin_27 : decode b_Pn_stopsWithin 27 = .ok (.goto (-23), 3) := by decide +kernel
theorem d_Pn_stopsWithin_30 : decode b_Pn_stopsWithin 30 = .ok (.aload_n 0, 1) := by decide +kernel
theorem d_Pn_stopsWithin_31 : decode b_Pn_stopsWithin 31 = .ok (.getfield 24, 3) := by decide +kernel
theorem d_Pn_stopsWithin_34 : decode b_Pn_stopsWithin 34 = .ok (.istore_n 3, 1) := by decide +kernel
theorem d_Pn_stopsWithin_35 : decode b_Pn_stopsWithin 35 = .ok (.iload_n 3, 1) := by decide +kernel
theorem d_Pn_stopsWithin_36 : decode b_Pn_stopsWithin 36 = .ok (.ifCond .le 47, 3) := by decide +kernel
theorem d_Pn_stopsWithin_39 : decode b_Pn_stopsWithin 39 = .ok (.aload_n 0, 1) := by decide +kernel
theorem d_Pn_stopsWithin_40 : decode b_Pn_stopsWithin 40 = .ok (.iload_n 3, 1) := by decide +kernel
theorem d_Pn_stopsWithin_41 : decode b_Pn_stopsWithin 41 = .ok (.invokevirtual 67, 3) := by decide +kernel
theorem d_Pn_stopsWithin_44 : decode b_Pn_stopsWithin 44 = .ok (.istore 4, 2) := by decide +kernel
theorem d_Pn_stopsWithin_46 : decode b_Pn_stopsWithin 46 = .ok (.iload 4, 2) := by decide +kernel
theorem d_Pn_stopsWithin_48 : decode b_Pn_stopsWithin 48 = .ok (.ldc 42, 2) := by decide +kernel
theorem d_Pn_stopsWithin_50 : decode b_Pn_stopsWithin 50 = .ok (.if_icmp .ge 13, 3) := by decide +kernel
theorem d_Pn_stopsWithin_53 : decode b_Pn_stopsWithin 53 = .ok (.iload 4, 2) := by decide +kernel
theorem d_Pn_stopsWithin_55 : decode b_Pn_stopsWithin 55 = .ok (.iload_n 2, 1) := by decide +kernel
theorem d_Pn_stopsWithin_56 : decode b_Pn_stopsWithin 56 = .ok (.iadd, 1) := by decide +kernel
theorem d_Pn_stopsWithin_57 : decode b_Pn_stopsWithin 57 = .ok (.iload_n 1, 1) := by decide +kernel
theorem d_Pn_stopsWithin_58 : decode b_Pn_stopsWithin 58 = .ok (.if_icmp .gt 5, 3) := by decide +kernel
theorem d_Pn_stopsWithin_61 : decode b_Pn_stopsWithin 61 = .ok (.iload_n 3, 1) := by decide +kernel
theorem d_Pn_stopsWithin_62 : decode b_Pn_stopsWithin 62 = .ok (.ireturn, 1) := by decide +kernel
theorem d_Pn_stopsWithin_63 : decode b_Pn_stopsWithin 63 = .ok (.iload_n 2, 1) := by decide +kernel
theorem d_Pn_stopsWithin_64 : decode b_Pn_stopsWithin 64 = .ok (.aload_n 0, 1) := by decide +kernel
theorem d_Pn_stopsWithin_65 : decode b_Pn_stopsWithin 65 = .ok (.getfield 13, 3) := by decide +kernel
theorem d_Pn_stopsWithin_68 : decode b_Pn_stopsWithin 68 = .ok (.iload_n 3, 1) := by decide +kernel
theorem d_Pn_stopsWithin_69 : decode b_Pn_stopsWithin 69 = .ok (.iconst 1, 1) := by decide +kernel
theorem d_Pn_stopsWithin_70 : decode b_Pn_stopsWithin 70 = .ok (.isub, 1) := by decide +kernel
theorem d_Pn_stopsWithin_71 : decode b_Pn_stopsWithin 71 = .ok (.aaload, 1) := by decide +kernel
theorem d_Pn_stopsWithin_72 : decode b_Pn_stopsWithin 72 = .ok (.getfield 64, 3) := by decide +kernel
theorem d_Pn_stopsWithin_75 : decode b_Pn_stopsWithin 75 = .ok (.isub, 1) := by decide +kernel
theorem d_Pn_stopsWithin_76 : decode b_Pn_stopsWithin 76 = .ok (.istore_n 2, 1) := by decide +kernel
theorem d_Pn_stopsWithin_77 : decode b_Pn_stopsWithin 77 = .ok (.iinc 3 (-1), 3) := by decide +kernel
theorem d_Pn_stopsWithin_80 : decode b_Pn_stopsWithin 80 = .ok (.goto (-45), 3) := by decide +kernel
theorem d_Pn_stopsWithin_83 : decode b_Pn_stopsWithin 83 = .ok (.iconst 0, 1) := by decide +kernel
theorem d_Pn_stopsWithin_84 : decode b_Pn_stopsWithin 84 = .ok (.ireturn, 1) := by decide +kernel
theorem d_Pn_fill_0 : decode b_Pn_fill 0 = .ok (.iload_n 2, 1) := by decide +kernel
theorem d_Pn_fill_1 : decode b_Pn_fill 1 = .ok (.invokestatic 60, 3) := by decide +kernel
theorem d_Pn_fill_4 : decode b_Pn_fill 4 = .ok (.istore_n 3, 1) := by decide +kernel
theorem d_Pn_fill_5 : decode b_Pn_fill 5 = .ok (.aload_n 0, 1) := by decide +kernel
theorem d_Pn_fill_6 : decode b_Pn_fill 6 = .ok (.bipush 7, 2) := by decide +kernel
theorem d_Pn_fill_8 : decode b_Pn_fill 8 = .ok (.iload_n 3, 1) := by decide +kernel
theorem d_Pn_fill_9 : decode b_Pn_fill 9 = .ok (.invokevirtual 70, 3) := by decide +kernel
theorem d_Pn_fill_12 : decode b_Pn_fill 12 = .ok (.istore 4, 2) := by decide +kernel
theorem d_Pn_fill_14 : decode b_Pn_fill 14 = .ok (.iconst 0, 1) := by decide +kernel
theorem d_Pn_fill_15 : decode b_Pn_fill 15 = .ok (.istore 5, 2) := by decide +kernel
theorem d_Pn_fill_17 : decode b_Pn_fill 17 = .ok (.iload 5, 2) := by decide +kernel
theorem d_Pn_fill_19 : decode b_Pn_fill 19 = .ok (.iload_n 2, 1) := by decide +kernel
theorem d_Pn_fill_20 : decode b_Pn_fill 20 = .ok (.if_icmp .ge 45, 3) := by decide +kernel
theorem d_Pn_fill_23 : decode b_Pn_fill 23 = .ok (.iload 4, 2) := by decide +kernel
theorem d_Pn_fill_25 : decode b_Pn_fill 25 = .ok (.iconst (-1), 1) := by decide +kernel
theorem d_Pn_fill_26 : decode b_Pn_fill 26 = .ok (.if_icmp .eq 39, 3) := by decide +kernel
theorem d_Pn_fill_29 : decode b_Pn_fill 29 = .ok (.aload_n 1, 1) := by decide +kernel
theorem d_Pn_fill_30 : decode b_Pn_fill 30 = .ok (.aload_n 0, 1) := by decide +kernel
theorem d_Pn_fill_31 : decode b_Pn_fill 31 = .ok (.getfield 13, 3) := by decide +kernel
theorem d_Pn_fill_34 : decode b_Pn_fill 34 = .ok (.iload 4, 2) := by decide +kernel
theorem d_Pn_fill_36 : decode b_Pn_fill 36 = .ok (.aaload, 1) := by decide +kernel
theorem d_Pn_fill_37 : decode b_Pn_fill 37 = .ok (.iload 5, 2) := by decide +kernel
theorem d_Pn_fill_39 : decode b_Pn_fill 39 = .ok (.iconst 0, 1) := by decide +kernel
theorem d_Pn_fill_40 : decode b_Pn_fill 40 = .ok (.invokevirtual 73, 3) := by decide +kernel
theorem d_Pn_fill_43 : decode b_Pn_fill 43 = .ok (.iload_n 3, 1) := by decide +kernel
theorem d_Pn_fill_44 : decode b_Pn_fill 44 = .ok (.iconst 1, 1) := by decide +kernel
theorem d_Pn_fill_45 : decode b_Pn_fill 45 = .ok (.iload 4, 2) := by decide +kernel
theorem d_Pn_fill_47 : decode b_Pn_fill 47 = .ok (.ishl, 1) := by decide +kernel
theorem d_Pn_fill_48 : decode b_Pn_fill 48 = .ok (.isub, 1) := by decide +kernel
theorem d_Pn_fill_49 : decode b_Pn_fill 49 = .ok (.istore_n 3, 1) := by decide +kernel
theorem d_Pn_fill_50 : decode b_Pn_fill 50 = .ok (.aload_n 0, 1) := by decide +kernel
theorem d_Pn_fill_51 : decode b_Pn_fill 51 = .ok (.iload 4, 2) := by decide +kernel
theorem d_Pn_fill_53 : decode b_Pn_fill 53 = .ok (.iload_n 3, 1) := by decide +kernel
theorem d_Pn_fill_54 : decode b_Pn_fill 54 = .ok (.invokevirtual 70, 3) := by decide +kernel
theorem d_Pn_fill_57 : decode b_Pn_fill 57 = .ok (.istore 4, 2) := by decide +kernel
theorem d_Pn_fill_59 : decode b_Pn_fill 59 = .ok (.iinc 5 1, 3) := by decide +kernel
theorem d_Pn_fill_62 : decode b_Pn_fill 62 = .ok (.goto (-45), 3) := by decide +kernel
theorem d_Pn_fill_65 : decode b_Pn_fill 65 = .ok (.aload_n 1, 1) := by decide +kernel
theorem d_Pn_fill_66 : decode b_Pn_fill 66 = .ok (.aload_n 0, 1) := by decide +kernel
theorem d_Pn_fill_67 : decode b_Pn_fill 67 = .ok (.iload_n 2, 1) := by decide +kernel
theorem d_Pn_fill_68 : decode b_Pn_fill 68 = .ok (.invokevirtual 67, 3) := by decide +kernel
theorem d_Pn_fill_71 : decode b_Pn_fill 71 = .ok (.putfield 79, 3) := by decide +kernel
theorem d_Pn_fill_74 : decode b_Pn_fill 74 = .ok (.return_, 1) := by decide +kernel
theorem d_Pn_nextNode_0 : decode b_Pn_nextNode 0 = .ok (.iconst (-1), 1) := by decide +kernel
theorem d_Pn_nextNode_1 : decode b_Pn_nextNode 1 = .ok (.istore_n 3, 1) := by decide +kernel
theorem d_Pn_nextNode_2 : decode b_Pn_nextNode 2 = .ok (.iconst 0, 1) := by decide +kernel
theorem d_Pn_nextNode_3 : decode b_Pn_nextNode 3 = .ok (.istore 4, 2) := by decide +kernel
theorem d_Pn_nextNode_5 : decode b_Pn_nextNode 5 = .ok (.iload 4, 2) := by decide +kernel
theorem d_Pn_nextNode_7 : decode b_Pn_nextNode 7 = .ok (.aload_n 0, 1) := by decide +kernel
theorem d_Pn_nextNode_8 : decode b_Pn_nextNode 8 = .ok (.getfield 24, 3) := by decide +kernel
theorem d_Pn_nextNode_11 : decode b_Pn_nextNode 11 = .ok (.if_icmp .ge 70, 3) := by decide +kernel
theorem d_Pn_nextNode_14 : decode b_Pn_nextNode 14 = .ok (.iload 4, 2) := by decide +kernel
theorem d_Pn_nextNode_16 : decode b_Pn_nextNode 16 = .ok (.iload_n 2, 1) := by decide +kernel
theorem d_Pn_nextNode_17 : decode b_Pn_nextNode 17 = .ok (.invokestatic 43, 3) := by decide +kernel
theorem d_Pn_nextNode_20 : decode b_Pn_nextNode 20 = .ok (.ifCond .eq 55, 3) := by decide +kernel
theorem d_Pn_nextNode_23 : decode b_Pn_nextNode 23 = .ok (.aload_n 0, 1) := by decide +kernel
theorem d_Pn_nextNode_24 : decode b_Pn_nextNode 24 = .ok (.iload_n 1, 1) := by decide +kernel
theorem d_Pn_nextNode_25 : decode b_Pn_nextNode 25 = .ok (.iload 4, 2) := by decide +kernel
theorem d_Pn_nextNode_27 : decode b_Pn_nextNode 27 = .ok (.iload_n 2, 1) := by decide +kernel
theorem d_Pn_nextNode_28 : decode b_Pn_nextNode 28 = .ok (.invokevirtual 51, 3) := by decide +kernel
theorem d_Pn_nextNode_31 : decode b_Pn_nextNode 31 = .ok (.aload_n 0, 1) := by decide +kernel
theorem d_Pn_nextNode_32 : decode b_Pn_nextNode 32 = .ok (.getfield 21, 3) := by decide +kernel
theorem d_Pn_nextNode_35 : decode b_Pn_nextNode 35 = .ok (.iload_n 2, 1) := by decide +kernel
theorem d_Pn_nextNode_36 : decode b_Pn_nextNode 36 = .ok (.bipush 8, 2) := by decide +kernel
theorem d_Pn_nextNode_38 : decode b_Pn_nextNode 38 = .ok (.imul, 1) := by decide +kernel
theorem d_Pn_nextNode_39 : decode b_Pn_nextNode 39 = .ok (.iload_n 1, 1) := by decide +kernel
theorem d_Pn_nextNode_40 : decode b_Pn_nextNode 40 = .ok (.iadd, 1) := by decide +kernel
theorem d_Pn_nextNode_41 : decode b_Pn_nextNode 41 = .ok (.iaload, 1) := by decide +kernel
theorem d_Pn_nextNode_42 : decode b_Pn_nextNode 42 = .ok (.if_icmp .ne 33, 3) := by decide +kernel
theorem d_Pn_nextNode_45 : decode b_Pn_nextNode 45 = .ok (.iload_n 3, 1) := by decide +kernel
theorem d_Pn_nextNode_46 : decode b_Pn_nextNode 46 = .ok (.iconst (-1), 1) := by decide +kernel
theorem d_Pn_nextNode_47 : decode b_Pn_nextNode 47 = .ok (.if_icmp .eq 25, 3) := by decide +kernel
theorem d_Pn_nextNode_50 : decode b_Pn_nextNode 50 = .ok (.aload_n 0, 1) := by decide +kernel
theorem d_Pn_nextNode_51 : decode b_Pn_nextNode 51 = .ok (.getfield 13, 3) := by decide +kernel
theorem d_Pn_nextNode_54 : decode b_Pn_nextNode 54 = .ok (.iload 4, 2) := by decide +kernel
theorem d_Pn_nextNode_56 : decode b_Pn_nextNode 56 = .ok (.aaload, 1) := by decide +kernel
theorem d_Pn_nextNode_57 : decode b_Pn_nextNode 57 = .ok (.getfield 82, 3) := by decide +kernel
theorem d_Pn_nextNode_60 : decode b_Pn_nextNode 60 = .ok (.aload_n 0, 1) := by decide +kernel
theorem d_Pn_nextNode_61 : decode b_Pn_nextNode 61 = .ok (.getfield 13, 3) := by decide +kernel
theorem d_Pn_nextNode_64 : decode b_Pn_nextNode 64 = .ok (.iload_n 3, 1) := by decide +kernel
theorem d_Pn_nextNode_65 : decode b_Pn_nextNode 65 = .ok (.aaload, 1) := by decide +kernel
theorem d_Pn_nextNode_66 : decode b_Pn_nextNode 66 = .ok (.getfield 82, 3) := by decide +kernel
theorem d_Pn_nextNode_69 : decode b_Pn_nextNode 69 = .ok (.if_icmp .ge 6, 3) := by decide +kernel
theorem d_Pn_nextNode_72 : decode b_Pn_nextNode 72 = .ok (.iload 4, 2) := by decide +kernel
theorem d_Pn_nextNode_74 : decode b_Pn_nextNode 74 = .ok (.istore_n 3, 1) := by decide +kernel
theorem d_Pn_nextNode_75 : decode b_Pn_nextNode 75 = .ok (.iinc 4 1, 3) := by decide +kernel
theorem d_Pn_nextNode_78 : decode b_Pn_nextNode 78 = .ok (.goto (-73), 3) := by decide +kernel
theorem d_Pn_nextNode_81 : decode b_Pn_nextNode 81 = .ok (.iload_n 3, 1) := by decide +kernel
theorem d_Pn_nextNode_82 : decode b_Pn_nextNode 82 = .ok (.ireturn, 1) := by decide +kernel
theorem d_To_init_0 : decode b_To_init 0 = .ok (.aload_n 0, 1) := by decide +kernel
theorem d_To_init_1 : decode b_To_init 1 = .ok (.invokespecial 3, 3) := by decide +kernel
theorem d_To_init_4 : decode b_To_init 4 = .ok (.aload_n 0, 1) := by decide +kernel
theorem d_To_init_5 : decode b_To_init 5 = .ok (.bipush 20, 2) := by decide +kernel
theorem d_To_init_7 : decode b_To_init 7 = .ok (.anewarray 9, 3) := by decide +kernel
theorem d_To_init_10 : decode b_To_init 10 = .ok (.putfield 11, 3) := by decide +kernel
theorem d_To_init_13 : decode b_To_init 13 = .ok (.aload_n 0, 1) := by decide +kernel
theorem d_To_init_14 : decode b_To_init 14 = .ok (.aconst_null, 1) := by decide +kernel
theorem d_To_init_15 : decode b_To_init 15 = .ok (.putfield 17, 3) := by decide +kernel
theorem d_To_init_18 : decode b_To_init 18 = .ok (.aload_n 0, 1) := by decide +kernel
theorem d_To_init_19 : decode b_To_init 19 = .ok (.iconst 0, 1) := by decide +kernel
theorem d_To_init_20 : decode b_To_init 20 = .ok (.putfield 21, 3) := by decide +kernel
theorem d_To_init_23 : decode b_To_init 23 = .ok (.aload_n 0, 1) := by decide +kernel
theorem d_To_init_24 : decode b_To_init 24 = .ok (.iconst 0, 1) := by decide +kernel
theorem d_To_init_25 : decode b_To_init 25 = .ok (.putfield 25, 3) := by decide +kernel
theorem d_To_init_28 : decode b_To_init 28 = .ok (.aload_n 0, 1) := by decide +kernel
theorem d_To_init_29 : decode b_To_init 29 = .ok (.iconst 0, 1) := by decide +kernel
theorem d_To_init_30 : decode b_To_init 30 = .ok (.putfield 28, 3) := by decide +kernel
theorem d_To_init_33 : decode b_To_init 33 = .ok (.aload_n 0, 1) := by decide +kernel
theorem d_To_init_34 : decode b_To_init 34 = .ok (.iconst 0, 1) := by decide +kernel
theorem d_To_init_35 : decode b_To_init 35 = .ok (.putfield 31, 3) := by decide +kernel
theorem d_To_init_38 : decode b_To_init 38 = .ok (.aload_n 0, 1) := by decide +kernel
theorem d_To_init_39 : decode b_To_init 39 = .ok (.iconst 0, 1) := by decide +kernel
theorem d_To_init_40 : decode b_To_init 40 = .ok (.putfield 34, 3) := by decide +kernel
theorem d_To_init_43 : decode b_To_init 43 = .ok (.return_, 1) := by decide +kernel
theorem d_To_begin_0 : decode b_To_begin 0 = .ok (.aload_n 0, 1) := by decide +kernel
theorem d_To_begin_1 : decode b_To_begin 1 = .ok (.invokevirtual 37, 3) := by decide +kernel
theorem d_To_begin_4 : decode b_To_begin 4 = .ok (.aload_n 0, 1) := by decide +kernel
theorem d_To_begin_5 : decode b_To_begin 5 = .ok (.aload_n 1, 1) := by decide +kernel
theorem d_To_begin_6 : decode b_To_begin 6 = .ok (.putfield 17, 3) := by decide +kernel
theorem d_To_begin_9 : decode b_To_begin 9 = .ok (.aload_n 0, 1) := by decide +kernel
theorem d_To_begin_10 : decode b_To_begin 10 = .ok (.iload_n 2, 1) := by decide +kernel
theorem d_To_begin_11 : decode b_To_begin 11 = .ok (.putfield 21, 3) := by decide +kernel
theorem d_To_begin_14 : decode b_To_begin 14 = .ok (.return_, 1) := by decide +kernel
theorem d_To_end_0 : decode b_To_end 0 = .ok (.aload_n 0, 1) := by decide +kernel
theorem d_To_end_1 : decode b_To_end 1 = .ok (.aconst_null, 1) := by decide +kernel
theorem d_To_end_2 : decode b_To_end 2 = .ok (.putfield 17, 3) := by decide +kernel
theorem d_To_end_5 : decode b_To_end 5 = .ok (.aload_n 0, 1) := by decide +kernel
theorem d_To_end_6 : decode b_To_end 6 = .ok (.iconst 0, 1) := by decide +kernel
theorem d_To_end_7 : decode b_To_end 7 = .ok (.putfield 25, 3) := by decide +kernel
theorem d_To_end_10 : decode b_To_end 10 = .ok (.aload_n 0, 1) := by decide +kernel
theorem d_To_end_11 : decode b_To_end 11 = .ok (.iconst 0, 1) := by decide +kernel
theorem d_To_end_12 : decode b_To_end 12 = .ok (.putfield 28, 3) := by decide +kernel
theorem d_To_end_15 : decode b_To_end 15 = .ok (.aload_n 0, 1) := by decide +kernel
theorem d_To_end_16 : decode b_To_end 16 = .ok (.iconst 0, 1) := by decide +kernel
theorem d_To_end_17 : decode b_To_end 17 = .ok (.putfield 31, 3) := by decide +kernel
theorem d_To_end_20 : decode b_To_end 20 = .ok (.aload_n 0, 1) := by decide +kernel
theorem d_To_end_21 : decode b_To_end 21 = .ok (.iconst 0, 1) := by decide +kernel
theorem d_To_end_22 : decode b_To_end 22 = .ok (.putfield 34, 3) := by decide +kernel
theorem d_To_end_25 : decode b_To_end 25 = .ok (.return_, 1) := by decide +kernel
theorem d_To_isStop_0 : decode b_To_isStop 0 = .ok (.iconst 0, 1) := by decide +kernel
theorem d_To_isStop_1 : decode b_To_isStop 1 = .ok (.istore_n 2, 1) := by decide +kernel
theorem d_To_isStop_2 : decode b_To_isStop 2 = .ok (.iload_n 2, 1) := by decide +kernel
theorem d_To_isStop_3 : decode b_To_isStop 3 = .ok (.aload_n 0, 1) := by decide +kernel
theorem d_To_isStop_4 : decode b_To_isStop 4 = .ok (.getfield 25, 3) := by decide +kernel
theorem d_To_isStop_7 : decode b_To_isStop 7 = .ok (.if_icmp .ge 27, 3) := by decide +kernel
theorem d_To_isStop_10 : decode b_To_isStop 10 = .ok (.aload_n 0, 1) := by decide +kernel
theorem d_To_isStop_11 : decode b_To_isStop 11 = .ok (.getfield 11, 3) := by decide +kernel
theorem d_To_isStop_14 : decode b_To_isStop 14 = .ok (.iload_n 2, 1) := by decide +kernel
theorem d_To_isStop_15 : decode b_To_isStop 15 = .ok (.aaload, 1) := by decide +kernel
theorem d_To_isStop_16 : decode b_To_isStop 16 = .ok (.getfield 40, 3) := by decide +kernel
theorem d_To_isStop_19 : decode b_To_isStop 19 = .ok (.aload_n 1, 1) := by decide +kernel
theorem d_To_isStop_20 : decode b_To_isStop 20 = .ok (.getfield 40, 3) := by decide +kernel
theorem d_To_isStop_23 : decode b_To_isStop 23 = .ok (.if_icmp .ne 5, 3) := by decide +kernel
theorem d_To_isStop_26 : decode b_To_isStop 26 = .ok (.iconst 1, 1) := by decide +kernel
theorem d_To_isStop_27 : decode b_To_isStop 27 = .ok (.ireturn, 1) := by decide +kernel
theorem d_To_isStop_28 : decode b_To_isStop 28 = .ok (.iinc 2 1, 3) := by decide +kernel
theorem d_To_isStop_31 : decode b_To_isStop 31 = .ok (.goto (-29), 3) := by decide +kernel
theorem d_To_isStop_34 : decode b_To_isStop 34 = .ok (.iconst 0, 1) := by decide +kernel
theorem d_To_isStop_35 : decode b_To_isStop 35 = .ok (.ireturn, 1) := by decide +kernel
theorem d_To_insert_0 : decode b_To_insert 0 = .ok (.aload_n 0, 1) := by decide +kernel
theorem d_To_insert_1 : decode b_To_insert 1 = .ok (.getfield 25, 3) := by decide +kernel
theorem d_To_insert_4 : decode b_To_insert 4 = .ok (.istore 4, 2) := by decide +kernel
theorem d_To_insert_6 : decode b_To_insert 6 = .ok (.iload 4, 2) := by decide +kernel
theorem d_To_insert_8 : decode b_To_insert 8 = .ok (.iload_n 2, 1) := by decide +kernel
theorem d_To_insert_9 : decode b_To_insert 9 = .ok (.if_icmp .le 25, 3) := by decide +kernel
theorem d_To_insert_12 : decode b_To_insert 12 = .ok (.aload_n 0, 1) := by decide +kernel
theorem d_To_insert_13 : decode b_To_insert 13 = .ok (.getfield 11, 3) := by decide +kernel
theorem d_To_insert_16 : decode b_To_insert 16 = .ok (.iload 4, 2) := by decide +kernel
theorem d_To_insert_18 : decode b_To_insert 18 = .ok (.aload_n 0, 1) := by decide +kernel
theorem d_To_insert_19 : decode b_To_insert 19 = .ok (.getfield 11, 3) := by decide +kernel
theorem d_To_insert_22 : decode b_To_insert 22 = .ok (.iload 4, 2) := by decide +kernel
theorem d_To_insert_24 : decode b_To_insert 24 = .ok (.iconst 1, 1) := by decide +kernel
theorem d_To_insert_25 : decode b_To_insert 25 = .ok (.isub, 1) := by decide +kernel
theorem d_To_insert_26 : decode b_To_insert 26 = .ok (.aaload, 1) := by decide +kernel
theorem d_To_insert_27 : decode b_To_insert 27 = .ok (.aastore, 1) := by decide +kernel
theorem d_To_insert_28 : decode b_To_insert 28 = .ok (.iinc 4 (-1), 3) := by decide +kernel
theorem d_To_insert_31 : decode b_To_insert 31 = .ok (.goto (-25), 3) := by decide +kernel
theorem d_To_insert_34 : decode b_To_insert 34 = .ok (.aload_n 0, 1) := by decide +kernel
theorem d_To_insert_35 : decode b_To_insert 35 = .ok (.getfield 11, 3) := by decide +kernel
theorem d_To_insert_38 : decode b_To_insert 38 = .ok (.iload_n 2, 1) := by decide +kernel
theorem d_To_insert_39 : decode b_To_insert 39 = .ok (.aload_n 1, 1) := by decide +kernel
theorem d_To_insert_40 : decode b_To_insert 40 = .ok (.aastore, 1) := by decide +kernel
theorem d_To_insert_41 : decode b_To_insert 41 = .ok (.aload_n 0, 1) := by decide +kernel
theorem d_To_insert_42 : decode b_To_insert 42 = .ok (.dup, 1) := by decide +kernel
theorem d_To_insert_43 : decode b_To_insert 43 = .ok (.getfield 25, 3) := by decide +kernel
theorem d_To_insert_46 : decode b_To_insert 46 = .ok (.iconst 1, 1) := by decide +kernel
theorem d_To_insert_47 : decode b_To_insert 47 = .ok (.iadd, 1) := by decide +kernel
theorem d_To_insert_48 : decode b_To_insert 48 = .ok (.putfield 25, 3) := by decide +kernel
theorem d_To_insert_51 : decode b_To_insert 51 = .ok (.aload_n 0, 1) := by decide +kernel
theorem d_To_insert_52 : decode b_To_insert 52 = .ok (.dup, 1) := by decide +kernel
theorem d_To_insert_53 : decode b_To_insert 53 = .ok (.getfield 31, 3) := by decide +kernel
theorem d_To_insert_56 : decode b_To_insert 56 = .ok (.iload_n 3, 1) := by decide +kernel
theorem d_To_insert_57 : decode b_To_insert 57 = .ok (.iadd, 1) := by decide +kernel
theorem d_To_insert_58 : decode b_To_insert 58 = .ok (.putfield 31, 3) := by decide +kernel
theorem d_To_insert_61 : decode b_To_insert 61 = .ok (.aload_n 0, 1) := by decide +kernel
theorem d_To_insert_62 : decode b_To_insert 62 = .ok (.dup, 1) := by decide +kernel
theorem d_To_insert_63 : decode b_To_insert 63 = .ok (.getfield 34, 3) := by decide +kernel
theorem d_To_insert_66 : decode b_To_insert 66 = .ok (.aload_n 1, 1) := by decide +kernel
theorem d_To_insert_67 : decode b_To_insert 67 = .ok (.getfield 43, 3) := by decide +kernel
theorem d_To_insert_70 : decode b_To_insert 70 = .ok (.iadd, 1) := by decide +kernel
theorem d_To_insert_71 : decode b_To_insert 71 = .ok (.putfield 34, 3) := by decide +kernel
theorem d_To_insert_74 : decode b_To_insert 74 = .ok (.return_, 1) := by decide +kernel
theorem d_To_shortestGap_0 : decode b_To_shortestGap 0 = .ok (.iconst (-1), 1) := by decide +kernel
theorem d_To_shortestGap_1 : decode b_To_shortestGap 1 = .ok (.istore_n 3, 1) := by decide +kernel
theorem d_To_shortestGap_2 : decode b_To_shortestGap 2 = .ok (.iconst 0, 1) := by decide +kernel
theorem d_To_shortestGap_3 : decode b_To_shortestGap 3 = .ok (.istore 4, 2) := by decide +kernel
theorem d_To_shortestGap_5 : decode b_To_shortestGap 5 = .ok (.aload_n 0, 1) := by decide +kernel
theorem d_To_shortestGap_6 : decode b_To_shortestGap 6 = .ok (.getfield 28, 3) := by decide +kernel
theorem d_To_shortestGap_9 : decode b_To_shortestGap 9 = .ok (.istore 5, 2) := by decide +kernel
theorem d_To_shortestGap_11 : decode b_To_shortestGap 11 = .ok (.iload 5, 2) := by decide +kernel
theorem d_To_shortestGap_13 : decode b_To_shortestGap 13 = .ok (.aload_n 0, 1) := by decide +kernel
theorem d_To_shortestGap_14 : decode b_To_shortestGap 14 = .ok (.getfield 25, 3) := by decide +kernel
theorem d_To_shortestGap_17 : decode b_To_shortestGap 17 = .ok (.if_icmp .gt 49, 3) := by decide +kernel
theorem d_To_shortestGap_20 : decode b_To_shortestGap 20 = .ok (.aload_n 0, 1) := by decide +kernel
theorem d_To_shortestGap_21 : decode b_To_shortestGap 21 = .ok (.aload_n 1, 1) := by decide +kernel
theorem d_To_shortestGap_22 : decode b_To_shortestGap 22 = .ok (.aload_n 2, 1) := by decide +kernel
theorem d_To_shortestGap_23 : decode b_To_shortestGap 23 = .ok (.iload 5, 2) := by decide +kernel
theorem d_To_shortestGap_25 : decode b_To_shortestGap 25 = .ok (.invokevirtual 44, 3) := by decide +kernel
theorem d_To_shortestGap_28 : decode b_To_shortestGap 28 = .ok (.ifCond .eq 32, 3) := by decide +kernel
theorem d_To_shortestGap_31 : decode b_To_shortestGap 31 = .ok (.aload_n 0, 1) := by decide +kernel
theorem d_To_shortestGap_32 : decode b_To_shortestGap 32 = .ok (.aload_n 1, 1) := by decide +kernel
theorem d_To_shortestGap_33 : decode b_To_shortestGap 33 = .ok (.aload_n 2, 1) := by decide +kernel
theorem d_To_shortestGap_34 : decode b_To_shortestGap 34 = .ok (.iload 5, 2) := by decide +kernel
theorem d_To_shortestGap_36 : decode b_To_shortestGap 36 = .ok (.invokevirtual 48, 3) := by decide +kernel
theorem d_To_shortestGap_39 : decode b_To_shortestGap 39 = .ok (.istore 6, 2) := by decide +kernel
theorem d_To_shortestGap_41 : decode b_To_shortestGap 41 = .ok (.iload_n 3, 1) := by decide +kernel
theorem d_To_shortestGap_42 : decode b_To_shortestGap 42 = .ok (.iconst (-1), 1) := by decide +kernel
theorem d_To_shortestGap_43 : decode b_To_shortestGap 43 = .ok (.if_icmp .eq 10, 3) := by decide +kernel
theorem d_To_shortestGap_46 : decode b_To_shortestGap 46 = .ok (.iload 6, 2) := by decide +kernel
theorem d_To_shortestGap_48 : decode b_To_shortestGap 48 = .ok (.iload 4, 2) := by decide +kernel
theorem d_To_shortestGap_50 : decode b_To_shortestGap 50 = .ok (.if_icmp .ge 10, 3) := by decide +kernel
theorem d_To_shortestGap_53 : decode b_To_shortestGap 53 = .ok (.iload 5, 2) := by decide +kernel
theorem d_To_shortestGap_55 : decode b_To_shortestGap 55 = .ok (.istore_n 3, 1) := by decide +kernel
theorem d_To_shortestGap_56 : decode b_To_shortestGap 56 = .ok (.iload 6, 2) := by decide +kernel
theorem d_To_shortestGap_58 : decode b_To_shortestGap 58 = .ok (.istore 4, 2) := by decide +kernel
theorem d_To_shortestGap_60 : decode b_To_shortestGap 60 = .ok (.iinc 5 1, 3) := by decide +kernel
theorem d_To_shortestGap_63 : decode b_To_shortestGap 63 = .ok (.goto (-52), 3) := by decide +kernel
theorem d_To_shortestGap_66 : decode b_To_shortestGap 66 = .ok (.iload_n 3, 1) := by decide +kernel
theorem d_To_shortestGap_67 : decode b_To_shortestGap 67 = .ok (.ireturn, 1) := by decide +kernel
theorem d_To_canReach_0 : decode b_To_canReach 0 = .ok (.aload_n 1, 1) := by decide +kernel
theorem d_To_canReach_1 : decode b_To_canReach 1 = .ok (.aload_n 0, 1) := by decide +kernel
theorem d_To_canReach_2 : decode b_To_canReach 2 = .ok (.iload_n 3, 1) := by decide +kernel
theorem d_To_canReach_3 : decode b_To_canReach 3 = .ok (.invokevirtual 52, 3) := by decide +kernel
theorem d_To_canReach_6 : decode b_To_canReach 6 = .ok (.aload_n 2, 1) := by decide +kernel
theorem d_To_canReach_7 : decode b_To_canReach 7 = .ok (.invokevirtual 56, 3) := by decide +kernel
theorem d_To_canReach_10 : decode b_To_canReach 10 = .ok (.iconst (-1), 1) := by decide +kernel
theorem d_To_canReach_11 : decode b_To_canReach 11 = .ok (.if_icmp .eq 21, 3) := by decide +kernel
theorem d_To_canReach_14 : decode b_To_canReach 14 = .ok (.aload_n 1, 1) := by decide +kernel
theorem d_To_canReach_15 : decode b_To_canReach 15 = .ok (.aload_n 2, 1) := by decide +kernel
theorem d_To_canReach_16 : decode b_To_canReach 16 = .ok (.aload_n 0, 1) := by decide +kernel
theorem d_To_canReach_17 : decode b_To_canReach 17 = .ok (.iload_n 3, 1) := by decide +kernel
theorem d_To_canReach_18 : decode b_To_canReach 18 = .ok (.invokevirtual 62, 3) := by decide +kernel
theorem d_To_canReach_21 : decode b_To_canReach 21 = .ok (.invokevirtual 56, 3) := by decide +kernel
theorem d_To_canReach_24 : decode b_To_canReach 24 = .ok (.iconst (-1), 1) := by decide +kernel
theorem d_To_canReach_25 : decode b_To_canReach 25 = .ok (.if_icmp .eq 7, 3) := by decide +kernel
theorem d_To_canReach_28 : decode b_To_canReach 28 = .ok (.iconst 1, 1) := by decide +kernel
theorem d_To_canReach_29 : decode b_To_canReach 29 = .ok (.goto 4, 3) := by decide +kernel
theorem d_To_canReach_32 : decode b_To_canReach 32 = .ok (.iconst 0, 1) := by decide +kernel
theorem d_To_canReach_33 : decode b_To_canReach 33 = .ok (.ireturn, 1) := by decide +kernel
theorem d_To_detour_0 : decode b_To_detour 0 = .ok (.aload_n 0, 1) := by decide +kernel
theorem d_To_detour_1 : decode b_To_detour 1 = .ok (.iload_n 3, 1) := by decide +kernel
theorem d_To_detour_2 : decode b_To_detour 2 = .ok (.invokevirtual 52, 3) := by decide +kernel
theorem d_To_detour_5 : decode b_To_detour 5 = .ok (.astore 4, 2) := by decide +kernel
theorem d_To_detour_7 : decode b_To_detour 7 = .ok (.aload_n 0, 1) := by decide +kernel
theorem d_To_detour_8 : decode b_To_detour 8 = .ok (.iload_n 3, 1) := by decide +kernel
theorem d_To_detour_9 : decode b_To_detour 9 = .ok (.invokevirtual 62, 3) := by decide +kernel
theorem d_To_detour_12 : decode b_To_detour 12 = .ok (.astore 5, 2) := by decide +kernel
theorem d_To_detour_14 : decode b_To_detour 14 = .ok (.aload_n 1, 1) := by decide +kernel
theorem d_To_detour_15 : decode b_To_detour 15 = .ok (.aload 4, 2) := by decide +kernel
theorem d_To_detour_17 : decode b_To_detour 17 = .ok (.aload_n 2, 1) := by decide +kernel
theorem d_To_detour_18 : decode b_To_detour 18 = .ok (.invokevirtual 56, 3) := by decide +kernel
theorem d_To_detour_21 : decode b_To_detour 21 = .ok (.aload_n 1, 1) := by decide +kernel
theorem d_To_detour_22 : decode b_To_detour 22 = .ok (.aload_n 2, 1) := by decide +kernel
theorem d_To_detour_23 : decode b_To_detour 23 = .ok (.aload 5, 2) := by decide +kernel
theorem d_To_detour_25 : decode b_To_detour 25 = .ok (.invokevirtual 56, 3) := by decide +kernel
theorem d_To_detour_28 : decode b_To_detour 28 = .ok (.iadd, 1) := by decide +kernel
theorem d_To_detour_29 : decode b_To_detour 29 = .ok (.aload_n 1, 1) := by decide +kernel
theorem d_To_detour_30 : decode b_To_detour 30 = .ok (.aload 4, 2) := by decide +kernel
theorem d_To_detour_32 : decode b_To_detour 32 = .ok (.aload 5, 2) := by decide +kernel
theorem d_To_detour_34 : decode b_To_detour 34 = .ok (.invokevirtual 56, 3) := by decide +kernel
theorem d_To_detour_37 : decode b_To_detour 37 = .ok (.isub, 1) := by decide +kernel
theorem d_To_detour_38 : decode b_To_detour 38 = .ok (.ireturn, 1) := by decide +kernel
theorem d_To_placeBefore_0 : decode b_To_placeBefore 0 = .ok (.iload_n 1, 1) := by decide +kernel
theorem d_To_placeBefore_1 : decode b_To_placeBefore 1 = .ok (.ifCond .le 17, 3) := by decide +kernel
theorem d_To_placeBefore_4 : decode b_To_placeBefore 4 = .ok (.aload_n 0, 1) := by decide +kernel
theorem d_To_placeBefore_5 : decode b_To_placeBefore 5 = .ok (.getfield 11, 3) := by decide +kernel
theorem d_To_placeBefore_8 : decode b_To_placeBefore 8 = .ok (.iload_n 1, 1) := by decide +kernel
theorem d_To_placeBefore_9 : decode b_To_placeBefore 9 = .ok (.iconst 1, 1) := by decide +kernel
theorem d_To_placeBefore_10 : decode b_To_placeBefore 10 = .ok (.isub, 1) := by decide +kernel
theorem d_To_placeBefore_11 : decode b_To_placeBefore 11 = .ok (.aaload, 1) := by decide +kernel
theorem d_To_placeBefore_12 : decode b_To_placeBefore 12 = .ok (.getfield 65, 3) := by decide +kernel
theorem d_To_placeBefore_15 : decode b_To_placeBefore 15 = .ok (.goto 10, 3) := by decide +kernel
theorem d_To_placeBefore_18 : decode b_To_placeBefore 18 = .ok (.aload_n 0, 1) := by decide +kernel
theorem d_To_placeBefore_19 : decode b_To_placeBefore 19 = .ok (.getfield 17, 3) := by decide +kernel
theorem d_To_placeBefore_22 : decode b_To_placeBefore 22 = .ok (.getfield 69, 3) := by decide +kernel
theorem d_To_placeBefore_25 : decode b_To_placeBefore 25 = .ok (.areturn, 1) := by decide +kernel
theorem d_To_placeBehind_0 : decode b_To_placeBehind 0 = .ok (.iload_n 1, 1) := by decide +kernel
theorem d_To_placeBehind_1 : decode b_To_placeBehind 1 = .ok (.aload_n 0, 1) := by decide +kernel
theorem d_To_placeBehind_2 : decode b_To_placeBehind 2 = .ok (.getfield 25, 3) := by decide +kernel
theorem d_To_placeBehind_5 : decode b_To_placeBehind 5 = .ok (.if_icmp .ge 15, 3) := by decide +kernel
theorem d_To_placeBehind_8 : decode b_To_placeBehind 8 = .ok (.aload_n 0, 1) := by decide +kernel
theorem d_To_placeBehind_9 : decode b_To_placeBehind 9 = .ok (.getfield 11, 3) := by decide +kernel
theorem d_To_placeBehind_12 : decode b_To_placeBehind 12 = .ok (.iload_n 1, 1) := by decide +kernel
theorem d_To_placeBehind_13 : decode b_To_placeBehind 13 = .ok (.aaload, 1) := by decide +kernel
theorem d_To_placeBehind_14 : decode b_To_placeBehind 14 = .ok (.getfield 65, 3) := by decide +kernel
theorem d_To_placeBehind_17 : decode b_To_placeBehind 17 = .ok (.goto 10, 3) := by decide +kernel
theorem d_To_placeBehind_20 : decode b_To_placeBehind 20 = .ok (.aload_n 0, 1) := by decide +kernel
theorem d_To_placeBehind_21 : decode b_To_placeBehind 21 = .ok (.getfield 17, 3) := by decide +kernel
theorem d_To_placeBehind_24 : decode b_To_placeBehind 24 = .ok (.getfield 69, 3) := by decide +kernel
theorem d_To_placeBehind_27 : decode b_To_placeBehind 27 = .ok (.areturn, 1) := by decide +kernel
