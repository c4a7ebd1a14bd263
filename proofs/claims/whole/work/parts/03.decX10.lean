theorem dX10_init_0 : decode cX10_init 0 = .ok (.aload_n 0, 1) := by decide +kernel
theorem dX10_init_1 : decode cX10_init 1 = .ok (.invokespecial 1, 3) := by decide +kernel
theorem dX10_init_4 : decode cX10_init 4 = .ok (.aload_n 0, 1) := by decide +kernel
theorem dX10_init_5 : decode cX10_init 5 = .ok (.new 7, 3) := by decide +kernel
theorem dX10_init_8 : decode cX10_init 8 = .ok (.dup, 1) := by decide +kernel
theorem dX10_init_9 : decode cX10_init 9 = .ok (.invokespecial 9, 3) := by decide +kernel
theorem dX10_init_12 : decode cX10_init 12 = .ok (.putfield 10, 3) := by decide +kernel
theorem dX10_init_15 : decode cX10_init 15 = .ok (.aload_n 0, 1) := by decide +kernel
theorem dX10_init_16 : decode cX10_init 16 = .ok (.new 16, 3) := by decide +kernel
theorem dX10_init_19 : decode cX10_init 19 = .ok (.dup, 1) := by decide +kernel
theorem dX10_init_20 : decode cX10_init 20 = .ok (.invokespecial 18, 3) := by decide +kernel
theorem dX10_init_23 : decode cX10_init 23 = .ok (.putfield 19, 3) := by decide +kernel
theorem dX10_init_26 : decode cX10_init 26 = .ok (.aload_n 0, 1) := by decide +kernel
theorem dX10_init_27 : decode cX10_init 27 = .ok (.new 23, 3) := by decide +kernel
theorem dX10_init_30 : decode cX10_init 30 = .ok (.dup, 1) := by decide +kernel
theorem dX10_init_31 : decode cX10_init 31 = .ok (.invokespecial 25, 3) := by decide +kernel
theorem dX10_init_34 : decode cX10_init 34 = .ok (.putfield 26, 3) := by decide +kernel
theorem dX10_init_37 : decode cX10_init 37 = .ok (.aload_n 0, 1) := by decide +kernel
theorem dX10_init_38 : decode cX10_init 38 = .ok (.new 30, 3) := by decide +kernel
theorem dX10_init_41 : decode cX10_init 41 = .ok (.dup, 1) := by decide +kernel
theorem dX10_init_42 : decode cX10_init 42 = .ok (.invokespecial 32, 3) := by decide +kernel
theorem dX10_init_45 : decode cX10_init 45 = .ok (.putfield 33, 3) := by decide +kernel
theorem dX10_init_48 : decode cX10_init 48 = .ok (.aload_n 0, 1) := by decide +kernel
theorem dX10_init_49 : decode cX10_init 49 = .ok (.new 37, 3) := by decide +kernel
theorem dX10_init_52 : decode cX10_init 52 = .ok (.dup, 1) := by decide +kernel
theorem dX10_init_53 : decode cX10_init 53 = .ok (.invokespecial 39, 3) := by decide +kernel
theorem dX10_init_56 : decode cX10_init 56 = .ok (.putfield 40, 3) := by decide +kernel
theorem dX10_init_59 : decode cX10_init 59 = .ok (.aload_n 0, 1) := by decide +kernel
theorem dX10_init_60 : decode cX10_init 60 = .ok (.getfield 40, 3) := by decide +kernel
theorem dX10_init_63 : decode cX10_init 63 = .ok (.ldc 44, 2) := by decide +kernel
theorem dX10_init_65 : decode cX10_init 65 = .ok (.invokevirtual 46, 3) := by decide +kernel
theorem dX10_init_68 : decode cX10_init 68 = .ok (.aload_n 0, 1) := by decide +kernel
theorem dX10_init_69 : decode cX10_init 69 = .ok (.getfield 40, 3) := by decide +kernel
theorem dX10_init_72 : decode cX10_init 72 = .ok (.invokevirtual 50, 3) := by decide +kernel
theorem dX10_init_75 : decode cX10_init 75 = .ok (.pop, 1) := by decide +kernel
theorem dX10_init_76 : decode cX10_init 76 = .ok (.aload_n 0, 1) := by decide +kernel
theorem dX10_init_77 : decode cX10_init 77 = .ok (.new 54, 3) := by decide +kernel
theorem dX10_init_80 : decode cX10_init 80 = .ok (.dup, 1) := by decide +kernel
theorem dX10_init_81 : decode cX10_init 81 = .ok (.invokespecial 56, 3) := by decide +kernel
theorem dX10_init_84 : decode cX10_init 84 = .ok (.putfield 57, 3) := by decide +kernel
theorem dX10_init_87 : decode cX10_init 87 = .ok (.aload_n 0, 1) := by decide +kernel
theorem dX10_init_88 : decode cX10_init 88 = .ok (.new 61, 3) := by decide +kernel
theorem dX10_init_91 : decode cX10_init 91 = .ok (.dup, 1) := by decide +kernel
theorem dX10_init_92 : decode cX10_init 92 = .ok (.aload_n 0, 1) := by decide +kernel
theorem dX10_init_93 : decode cX10_init 93 = .ok (.getfield 10, 3) := by decide +kernel
theorem dX10_init_96 : decode cX10_init 96 = .ok (.aload_n 0, 1) := by decide +kernel
theorem dX10_init_97 : decode cX10_init 97 = .ok (.getfield 19, 3) := by decide +kernel
theorem dX10_init_100 : decode cX10_init 100 = .ok (.aload_n 0, 1) := by decide +kernel
theorem dX10_init_101 : decode cX10_init 101 = .ok (.getfield 26, 3) := by decide +kernel
theorem dX10_init_104 : decode cX10_init 104 = .ok (.aload_n 0, 1) := by decide +kernel
theorem dX10_init_105 : decode cX10_init 105 = .ok (.getfield 33, 3) := by decide +kernel
theorem dX10_init_108 : decode cX10_init 108 = .ok (.aload_n 0, 1) := by decide +kernel
theorem dX10_init_109 : decode cX10_init 109 = .ok (.getfield 40, 3) := by decide +kernel
theorem dX10_init_112 : decode cX10_init 112 = .ok (.invokespecial 63, 3) := by decide +kernel
theorem dX10_init_115 : decode cX10_init 115 = .ok (.putfield 66, 3) := by decide +kernel
theorem dX10_init_118 : decode cX10_init 118 = .ok (.aload_n 0, 1) := by decide +kernel
theorem dX10_init_119 : decode cX10_init 119 = .ok (.new 70, 3) := by decide +kernel
theorem dX10_init_122 : decode cX10_init 122 = .ok (.dup, 1) := by decide +kernel
theorem dX10_init_123 : decode cX10_init 123 = .ok (.aload_n 0, 1) := by decide +kernel
theorem dX10_init_124 : decode cX10_init 124 = .ok (.getfield 10, 3) := by decide +kernel
theorem dX10_init_127 : decode cX10_init 127 = .ok (.aload_n 0, 1) := by decide +kernel
theorem dX10_init_128 : decode cX10_init 128 = .ok (.getfield 33, 3) := by decide +kernel
theorem dX10_init_131 : decode cX10_init 131 = .ok (.aload_n 0, 1) := by decide +kernel
theorem dX10_init_132 : decode cX10_init 132 = .ok (.getfield 57, 3) := by decide +kernel
theorem dX10_init_135 : decode cX10_init 135 = .ok (.aload_n 0, 1) := by decide +kernel
theorem dX10_init_136 : decode cX10_init 136 = .ok (.getfield 66, 3) := by decide +kernel
theorem dX10_init_139 : decode cX10_init 139 = .ok (.invokespecial 72, 3) := by decide +kernel
theorem dX10_init_142 : decode cX10_init 142 = .ok (.putfield 75, 3) := by decide +kernel
theorem dX10_init_145 : decode cX10_init 145 = .ok (.aload_n 0, 1) := by decide +kernel
theorem dX10_init_146 : decode cX10_init 146 = .ok (.new 79, 3) := by decide +kernel
theorem dX10_init_149 : decode cX10_init 149 = .ok (.dup, 1) := by decide +kernel
theorem dX10_init_150 : decode cX10_init 150 = .ok (.invokespecial 81, 3) := by decide +kernel
theorem dX10_init_153 : decode cX10_init 153 = .ok (.putfield 82, 3) := by decide +kernel
theorem dX10_init_156 : decode cX10_init 156 = .ok (.return_, 1) := by decide +kernel
theorem dX10_zone_0 : decode cX10_zone 0 = .ok (.iload_n 1, 1) := by decide +kernel
theorem dX10_zone_1 : decode cX10_zone 1 = .ok (.iconst 0, 1) := by decide +kernel
theorem dX10_zone_2 : decode cX10_zone 2 = .ok (.bipush 99, 2) := by decide +kernel
theorem dX10_zone_4 : decode cX10_zone 4 = .ok (.invokestatic 86, 3) := by decide +kernel
theorem dX10_zone_7 : decode cX10_zone 7 = .ok (.ifCond .ne 24, 3) := by decide +kernel
theorem dX10_zone_10 : decode cX10_zone 10 = .ok (.iload_n 2, 1) := by decide +kernel
theorem dX10_zone_11 : decode cX10_zone 11 = .ok (.iconst 0, 1) := by decide +kernel
theorem dX10_zone_12 : decode cX10_zone 12 = .ok (.ldc 90, 2) := by decide +kernel
theorem dX10_zone_14 : decode cX10_zone 14 = .ok (.invokestatic 86, 3) := by decide +kernel
theorem dX10_zone_17 : decode cX10_zone 17 = .ok (.ifCond .ne 14, 3) := by decide +kernel
theorem dX10_zone_20 : decode cX10_zone 20 = .ok (.iload_n 3, 1) := by decide +kernel
theorem dX10_zone_21 : decode cX10_zone 21 = .ok (.iconst 0, 1) := by decide +kernel
theorem dX10_zone_22 : decode cX10_zone 22 = .ok (.sipush 999, 3) := by decide +kernel
theorem dX10_zone_25 : decode cX10_zone 25 = .ok (.invokestatic 86, 3) := by decide +kernel
theorem dX10_zone_28 : decode cX10_zone 28 = .ok (.ifCond .eq 6, 3) := by decide +kernel
theorem dX10_zone_31 : decode cX10_zone 31 = .ok (.bipush (-2), 2) := by decide +kernel
theorem dX10_zone_33 : decode cX10_zone 33 = .ok (.ireturn, 1) := by decide +kernel
theorem dX10_zone_34 : decode cX10_zone 34 = .ok (.aload_n 0, 1) := by decide +kernel
theorem dX10_zone_35 : decode cX10_zone 35 = .ok (.getfield 57, 3) := by decide +kernel
theorem dX10_zone_38 : decode cX10_zone 38 = .ok (.getfield 91, 3) := by decide +kernel
theorem dX10_zone_41 : decode cX10_zone 41 = .ok (.ifCond .le 6, 3) := by decide +kernel
theorem dX10_zone_44 : decode cX10_zone 44 = .ok (.bipush (-3), 2) := by decide +kernel
theorem dX10_zone_46 : decode cX10_zone 46 = .ok (.ireturn, 1) := by decide +kernel
theorem dX10_zone_47 : decode cX10_zone 47 = .ok (.aload_n 0, 1) := by decide +kernel
theorem dX10_zone_48 : decode cX10_zone 48 = .ok (.getfield 10, 3) := by decide +kernel
theorem dX10_zone_51 : decode cX10_zone 51 = .ok (.getfield 95, 3) := by decide +kernel
theorem dX10_zone_54 : decode cX10_zone 54 = .ok (.bipush 6, 2) := by decide +kernel
theorem dX10_zone_56 : decode cX10_zone 56 = .ok (.if_icmp .lt 6, 3) := by decide +kernel
theorem dX10_zone_59 : decode cX10_zone 59 = .ok (.bipush (-4), 2) := by decide +kernel
theorem dX10_zone_61 : decode cX10_zone 61 = .ok (.ireturn, 1) := by decide +kernel
theorem dX10_zone_62 : decode cX10_zone 62 = .ok (.aload_n 0, 1) := by decide +kernel
theorem dX10_zone_63 : decode cX10_zone 63 = .ok (.getfield 10, 3) := by decide +kernel
theorem dX10_zone_66 : decode cX10_zone 66 = .ok (.dup, 1) := by decide +kernel
theorem dX10_zone_67 : decode cX10_zone 67 = .ok (.getfield 95, 3) := by decide +kernel
theorem dX10_zone_70 : decode cX10_zone 70 = .ok (.dup_x1, 1) := by decide +kernel
theorem dX10_zone_71 : decode cX10_zone 71 = .ok (.iconst 1, 1) := by decide +kernel
theorem dX10_zone_72 : decode cX10_zone 72 = .ok (.iadd, 1) := by decide +kernel
theorem dX10_zone_73 : decode cX10_zone 73 = .ok (.putfield 95, 3) := by decide +kernel
theorem dX10_zone_76 : decode cX10_zone 76 = .ok (.istore 4, 2) := by decide +kernel
theorem dX10_zone_78 : decode cX10_zone 78 = .ok (.aload_n 0, 1) := by decide +kernel
theorem dX10_zone_79 : decode cX10_zone 79 = .ok (.getfield 10, 3) := by decide +kernel
theorem dX10_zone_82 : decode cX10_zone 82 = .ok (.getfield 98, 3) := by decide +kernel
theorem dX10_zone_85 : decode cX10_zone 85 = .ok (.iload 4, 2) := by decide +kernel
theorem dX10_zone_87 : decode cX10_zone 87 = .ok (.iload_n 1, 1) := by decide +kernel
theorem dX10_zone_88 : decode cX10_zone 88 = .ok (.iastore, 1) := by decide +kernel
theorem dX10_zone_89 : decode cX10_zone 89 = .ok (.aload_n 0, 1) := by decide +kernel
theorem dX10_zone_90 : decode cX10_zone 90 = .ok (.getfield 57, 3) := by decide +kernel
theorem dX10_zone_93 : decode cX10_zone 93 = .ok (.getfield 102, 3) := by decide +kernel
theorem dX10_zone_96 : decode cX10_zone 96 = .ok (.iload 4, 2) := by decide +kernel
theorem dX10_zone_98 : decode cX10_zone 98 = .ok (.iload_n 2, 1) := by decide +kernel
theorem dX10_zone_99 : decode cX10_zone 99 = .ok (.iastore, 1) := by decide +kernel
theorem dX10_zone_100 : decode cX10_zone 100 = .ok (.aload_n 0, 1) := by decide +kernel
theorem dX10_zone_101 : decode cX10_zone 101 = .ok (.getfield 57, 3) := by decide +kernel
theorem dX10_zone_104 : decode cX10_zone 104 = .ok (.getfield 105, 3) := by decide +kernel
theorem dX10_zone_107 : decode cX10_zone 107 = .ok (.iload 4, 2) := by decide +kernel
theorem dX10_zone_109 : decode cX10_zone 109 = .ok (.iload_n 3, 1) := by decide +kernel
theorem dX10_zone_110 : decode cX10_zone 110 = .ok (.iastore, 1) := by decide +kernel
theorem dX10_zone_111 : decode cX10_zone 111 = .ok (.iload 4, 2) := by decide +kernel
theorem dX10_zone_113 : decode cX10_zone 113 = .ok (.ireturn, 1) := by decide +kernel
theorem dX10_shelter_0 : decode cX10_shelter 0 = .ok (.iload_n 1, 1) := by decide +kernel
theorem dX10_shelter_1 : decode cX10_shelter 1 = .ok (.iconst 0, 1) := by decide +kernel
theorem dX10_shelter_2 : decode cX10_shelter 2 = .ok (.ldc 90, 2) := by decide +kernel
theorem dX10_shelter_4 : decode cX10_shelter 4 = .ok (.invokestatic 86, 3) := by decide +kernel
theorem dX10_shelter_7 : decode cX10_shelter 7 = .ok (.ifCond .eq 6, 3) := by decide +kernel
theorem dX10_shelter_10 : decode cX10_shelter 10 = .ok (.bipush (-2), 2) := by decide +kernel
theorem dX10_shelter_12 : decode cX10_shelter 12 = .ok (.ireturn, 1) := by decide +kernel
theorem dX10_shelter_13 : decode cX10_shelter 13 = .ok (.aload_n 0, 1) := by decide +kernel
theorem dX10_shelter_14 : decode cX10_shelter 14 = .ok (.getfield 10, 3) := by decide +kernel
theorem dX10_shelter_17 : decode cX10_shelter 17 = .ok (.getfield 108, 3) := by decide +kernel
theorem dX10_shelter_20 : decode cX10_shelter 20 = .ok (.iconst 3, 1) := by decide +kernel
theorem dX10_shelter_21 : decode cX10_shelter 21 = .ok (.if_icmp .lt 6, 3) := by decide +kernel
theorem dX10_shelter_24 : decode cX10_shelter 24 = .ok (.bipush (-4), 2) := by decide +kernel
theorem dX10_shelter_26 : decode cX10_shelter 26 = .ok (.ireturn, 1) := by decide +kernel
theorem dX10_shelter_27 : decode cX10_shelter 27 = .ok (.aload_n 0, 1) := by decide +kernel
theorem dX10_shelter_28 : decode cX10_shelter 28 = .ok (.getfield 10, 3) := by decide +kernel
theorem dX10_shelter_31 : decode cX10_shelter 31 = .ok (.dup, 1) := by decide +kernel
theorem dX10_shelter_32 : decode cX10_shelter 32 = .ok (.getfield 108, 3) := by decide +kernel
theorem dX10_shelter_35 : decode cX10_shelter 35 = .ok (.dup_x1, 1) := by decide +kernel
theorem dX10_shelter_36 : decode cX10_shelter 36 = .ok (.iconst 1, 1) := by decide +kernel
theorem dX10_shelter_37 : decode cX10_shelter 37 = .ok (.iadd, 1) := by decide +kernel
theorem dX10_shelter_38 : decode cX10_shelter 38 = .ok (.putfield 108, 3) := by decide +kernel
theorem dX10_shelter_41 : decode cX10_shelter 41 = .ok (.istore_n 2, 1) := by decide +kernel
theorem dX10_shelter_42 : decode cX10_shelter 42 = .ok (.aload_n 0, 1) := by decide +kernel
theorem dX10_shelter_43 : decode cX10_shelter 43 = .ok (.getfield 57, 3) := by decide +kernel
theorem dX10_shelter_46 : decode cX10_shelter 46 = .ok (.getfield 111, 3) := by decide +kernel
theorem dX10_shelter_49 : decode cX10_shelter 49 = .ok (.iload_n 2, 1) := by decide +kernel
theorem dX10_shelter_50 : decode cX10_shelter 50 = .ok (.iload_n 1, 1) := by decide +kernel
theorem dX10_shelter_51 : decode cX10_shelter 51 = .ok (.iastore, 1) := by decide +kernel
theorem dX10_shelter_52 : decode cX10_shelter 52 = .ok (.iload_n 2, 1) := by decide +kernel
theorem dX10_shelter_53 : decode cX10_shelter 53 = .ok (.ireturn, 1) := by decide +kernel
theorem dX10_road_0 : decode cX10_road 0 = .ok (.iload_n 1, 1) := by decide +kernel
theorem dX10_road_1 : decode cX10_road 1 = .ok (.iconst 0, 1) := by decide +kernel
theorem dX10_road_2 : decode cX10_road 2 = .ok (.iconst 5, 1) := by decide +kernel
theorem dX10_road_3 : decode cX10_road 3 = .ok (.invokestatic 86, 3) := by decide +kernel
theorem dX10_road_6 : decode cX10_road 6 = .ok (.ifCond .ne 36, 3) := by decide +kernel
theorem dX10_road_9 : decode cX10_road 9 = .ok (.aload_n 0, 1) := by decide +kernel
theorem dX10_road_10 : decode cX10_road 10 = .ok (.iload_n 2, 1) := by decide +kernel
theorem dX10_road_11 : decode cX10_road 11 = .ok (.invokevirtual 114, 3) := by decide +kernel
theorem dX10_road_14 : decode cX10_road 14 = .ok (.ifCond .ne 28, 3) := by decide +kernel
theorem dX10_road_17 : decode cX10_road 17 = .ok (.aload_n 0, 1) := by decide +kernel
theorem dX10_road_18 : decode cX10_road 18 = .ok (.iload_n 3, 1) := by decide +kernel
theorem dX10_road_19 : decode cX10_road 19 = .ok (.invokevirtual 118, 3) := by decide +kernel
theorem dX10_road_22 : decode cX10_road 22 = .ok (.ifCond .ne 20, 3) := by decide +kernel
theorem dX10_road_25 : decode cX10_road 25 = .ok (.iload_n 3, 1) := by decide +kernel
theorem dX10_road_26 : decode cX10_road 26 = .ok (.iload_n 2, 1) := by decide +kernel
theorem dX10_road_27 : decode cX10_road 27 = .ok (.if_icmp .eq 15, 3) := by decide +kernel
theorem dX10_road_30 : decode cX10_road 30 = .ok (.iload 4, 2) := by decide +kernel
theorem dX10_road_32 : decode cX10_road 32 = .ok (.iconst 1, 1) := by decide +kernel
theorem dX10_road_33 : decode cX10_road 33 = .ok (.sipush 9999, 3) := by decide +kernel
theorem dX10_road_36 : decode cX10_road 36 = .ok (.invokestatic 86, 3) := by decide +kernel
theorem dX10_road_39 : decode cX10_road 39 = .ok (.ifCond .eq 6, 3) := by decide +kernel
theorem dX10_road_42 : decode cX10_road 42 = .ok (.bipush (-2), 2) := by decide +kernel
theorem dX10_road_44 : decode cX10_road 44 = .ok (.ireturn, 1) := by decide +kernel
theorem dX10_road_45 : decode cX10_road 45 = .ok (.aload_n 0, 1) := by decide +kernel
theorem dX10_road_46 : decode cX10_road 46 = .ok (.getfield 19, 3) := by decide +kernel
theorem dX10_road_49 : decode cX10_road 49 = .ok (.getfield 121, 3) := by decide +kernel
theorem dX10_road_52 : decode cX10_road 52 = .ok (.bipush 14, 2) := by decide +kernel
theorem dX10_road_54 : decode cX10_road 54 = .ok (.if_icmp .lt 6, 3) := by decide +kernel
theorem dX10_road_57 : decode cX10_road 57 = .ok (.bipush (-4), 2) := by decide +kernel
theorem dX10_road_59 : decode cX10_road 59 = .ok (.ireturn, 1) := by decide +kernel
theorem dX10_road_60 : decode cX10_road 60 = .ok (.aload_n 0, 1) := by decide +kernel
theorem dX10_road_61 : decode cX10_road 61 = .ok (.getfield 19, 3) := by decide +kernel
theorem dX10_road_64 : decode cX10_road 64 = .ok (.iload_n 1, 1) := by decide +kernel
theorem dX10_road_65 : decode cX10_road 65 = .ok (.iload_n 2, 1) := by decide +kernel
theorem dX10_road_66 : decode cX10_road 66 = .ok (.iload_n 3, 1) := by decide +kernel
theorem dX10_road_67 : decode cX10_road 67 = .ok (.iload 4, 2) := by decide +kernel
theorem dX10_road_69 : decode cX10_road 69 = .ok (.invokevirtual 124, 3) := by decide +kernel
theorem dX10_road_72 : decode cX10_road 72 = .ok (.ireturn, 1) := by decide +kernel
theorem dX10_use_0 : decode cX10_use 0 = .ok (.aload_n 0, 1) := by decide +kernel
theorem dX10_use_1 : decode cX10_use 1 = .ok (.iload_n 1, 1) := by decide +kernel
theorem dX10_use_2 : decode cX10_use 2 = .ok (.invokevirtual 128, 3) := by decide +kernel
theorem dX10_use_5 : decode cX10_use 5 = .ok (.ifCond .eq 6, 3) := by decide +kernel
theorem dX10_use_8 : decode cX10_use 8 = .ok (.bipush (-2), 2) := by decide +kernel
theorem dX10_use_10 : decode cX10_use 10 = .ok (.ireturn, 1) := by decide +kernel
theorem dX10_use_11 : decode cX10_use 11 = .ok (.aload_n 0, 1) := by decide +kernel
theorem dX10_use_12 : decode cX10_use 12 = .ok (.getfield 19, 3) := by decide +kernel
theorem dX10_use_15 : decode cX10_use 15 = .ok (.getfield 131, 3) := by decide +kernel
theorem dX10_use_18 : decode cX10_use 18 = .ok (.iload_n 1, 1) := by decide +kernel
theorem dX10_use_19 : decode cX10_use 19 = .ok (.iaload, 1) := by decide +kernel
theorem dX10_use_20 : decode cX10_use 20 = .ok (.istore_n 2, 1) := by decide +kernel
theorem dX10_use_21 : decode cX10_use 21 = .ok (.aload_n 0, 1) := by decide +kernel
theorem dX10_use_22 : decode cX10_use 22 = .ok (.getfield 10, 3) := by decide +kernel
theorem dX10_use_25 : decode cX10_use 25 = .ok (.getfield 134, 3) := by decide +kernel
theorem dX10_use_28 : decode cX10_use 28 = .ok (.iload_n 2, 1) := by decide +kernel
theorem dX10_use_29 : decode cX10_use 29 = .ok (.iaload, 1) := by decide +kernel
theorem dX10_use_30 : decode cX10_use 30 = .ok (.istore_n 3, 1) := by decide +kernel
theorem dX10_use_31 : decode cX10_use 31 = .ok (.aload_n 0, 1) := by decide +kernel
theorem dX10_use_32 : decode cX10_use 32 = .ok (.getfield 10, 3) := by decide +kernel
theorem dX10_use_35 : decode cX10_use 35 = .ok (.getfield 134, 3) := by decide +kernel
theorem dX10_use_38 : decode cX10_use 38 = .ok (.iload_n 2, 1) := by decide +kernel
theorem dX10_use_39 : decode cX10_use 39 = .ok (.iload_n 1, 1) := by decide +kernel
theorem dX10_use_40 : decode cX10_use 40 = .ok (.iastore, 1) := by decide +kernel
theorem dX10_use_41 : decode cX10_use 41 = .ok (.iload_n 3, 1) := by decide +kernel
theorem dX10_use_42 : decode cX10_use 42 = .ok (.ireturn, 1) := by decide +kernel
theorem dX10_turn_0 : decode cX10_turn 0 = .ok (.aload_n 0, 1) := by decide +kernel
theorem dX10_turn_1 : decode cX10_turn 1 = .ok (.iload_n 1, 1) := by decide +kernel
theorem dX10_turn_2 : decode cX10_turn 2 = .ok (.invokevirtual 128, 3) := by decide +kernel
theorem dX10_turn_5 : decode cX10_turn 5 = .ok (.ifCond .eq 6, 3) := by decide +kernel
theorem dX10_turn_8 : decode cX10_turn 8 = .ok (.bipush (-2), 2) := by decide +kernel
theorem dX10_turn_10 : decode cX10_turn 10 = .ok (.ireturn, 1) := by decide +kernel
theorem dX10_turn_11 : decode cX10_turn 11 = .ok (.aload_n 0, 1) := by decide +kernel
theorem dX10_turn_12 : decode cX10_turn 12 = .ok (.getfield 19, 3) := by decide +kernel
theorem dX10_turn_15 : decode cX10_turn 15 = .ok (.getfield 137, 3) := by decide +kernel
theorem dX10_turn_18 : decode cX10_turn 18 = .ok (.iload_n 1, 1) := by decide +kernel
theorem dX10_turn_19 : decode cX10_turn 19 = .ok (.iaload, 1) := by decide +kernel
theorem dX10_turn_20 : decode cX10_turn 20 = .ok (.iconst (-1), 1) := by decide +kernel
theorem dX10_turn_21 : decode cX10_turn 21 = .ok (.if_icmp .eq 6, 3) := by decide +kernel
theorem dX10_turn_24 : decode cX10_turn 24 = .ok (.bipush (-3), 2) := by decide +kernel
theorem dX10_turn_26 : decode cX10_turn 26 = .ok (.ireturn, 1) := by decide +kernel
theorem dX10_turn_27 : decode cX10_turn 27 = .ok (.aload_n 0, 1) := by decide +kernel
theorem dX10_turn_28 : decode cX10_turn 28 = .ok (.getfield 19, 3) := by decide +kernel
theorem dX10_turn_31 : decode cX10_turn 31 = .ok (.getfield 137, 3) := by decide +kernel
theorem dX10_turn_34 : decode cX10_turn 34 = .ok (.iload_n 1, 1) := by decide +kernel
theorem dX10_turn_35 : decode cX10_turn 35 = .ok (.aload_n 0, 1) := by decide +kernel
theorem dX10_turn_36 : decode cX10_turn 36 = .ok (.getfield 57, 3) := by decide +kernel
theorem dX10_turn_39 : decode cX10_turn 39 = .ok (.getfield 91, 3) := by decide +kernel
theorem dX10_turn_42 : decode cX10_turn 42 = .ok (.iastore, 1) := by decide +kernel
theorem dX10_turn_43 : decode cX10_turn 43 = .ok (.aload_n 0, 1) := by decide +kernel
theorem dX10_turn_44 : decode cX10_turn 44 = .ok (.getfield 57, 3) := by decide +kernel
theorem dX10_turn_47 : decode cX10_turn 47 = .ok (.getfield 91, 3) := by decide +kernel
theorem dX10_turn_50 : decode cX10_turn 50 = .ok (.ireturn, 1) := by decide +kernel
theorem dX10_bus_0 : decode cX10_bus 0 = .ok (.aload_n 0, 1) := by decide +kernel
theorem dX10_bus_1 : decode cX10_bus 1 = .ok (.iload_n 1, 1) := by decide +kernel
theorem dX10_bus_2 : decode cX10_bus 2 = .ok (.invokevirtual 114, 3) := by decide +kernel
theorem dX10_bus_5 : decode cX10_bus 5 = .ok (.ifCond .ne 32, 3) := by decide +kernel
theorem dX10_bus_8 : decode cX10_bus 8 = .ok (.aload_n 0, 1) := by decide +kernel
theorem dX10_bus_9 : decode cX10_bus 9 = .ok (.iload_n 2, 1) := by decide +kernel
theorem dX10_bus_10 : decode cX10_bus 10 = .ok (.invokevirtual 140, 3) := by decide +kernel
theorem dX10_bus_13 : decode cX10_bus 13 = .ok (.ifCond .ne 24, 3) := by decide +kernel
theorem dX10_bus_16 : decode cX10_bus 16 = .ok (.iload_n 3, 1) := by decide +kernel
theorem dX10_bus_17 : decode cX10_bus 17 = .ok (.iconst 1, 1) := by decide +kernel
theorem dX10_bus_18 : decode cX10_bus 18 = .ok (.bipush 99, 2) := by decide +kernel
theorem dX10_bus_20 : decode cX10_bus 20 = .ok (.invokestatic 86, 3) := by decide +kernel
theorem dX10_bus_23 : decode cX10_bus 23 = .ok (.ifCond .ne 14, 3) := by decide +kernel
theorem dX10_bus_26 : decode cX10_bus 26 = .ok (.iload 4, 2) := by decide +kernel
theorem dX10_bus_28 : decode cX10_bus 28 = .ok (.iconst 1, 1) := by decide +kernel
theorem dX10_bus_29 : decode cX10_bus 29 = .ok (.bipush 9, 2) := by decide +kernel
theorem dX10_bus_31 : decode cX10_bus 31 = .ok (.invokestatic 86, 3) := by decide +kernel
theorem dX10_bus_34 : decode cX10_bus 34 = .ok (.ifCond .eq 6, 3) := by decide +kernel
theorem dX10_bus_37 : decode cX10_bus 37 = .ok (.bipush (-2), 2) := by decide +kernel
theorem dX10_bus_39 : decode cX10_bus 39 = .ok (.ireturn, 1) := by decide +kernel
theorem dX10_bus_40 : decode cX10_bus 40 = .ok (.aload_n 0, 1) := by decide +kernel
theorem dX10_bus_41 : decode cX10_bus 41 = .ok (.getfield 26, 3) := by decide +kernel
theorem dX10_bus_44 : decode cX10_bus 44 = .ok (.getfield 143, 3) := by decide +kernel
theorem dX10_bus_47 : decode cX10_bus 47 = .ok (.iconst 4, 1) := by decide +kernel
theorem dX10_bus_48 : decode cX10_bus 48 = .ok (.if_icmp .lt 6, 3) := by decide +kernel
theorem dX10_bus_51 : decode cX10_bus 51 = .ok (.bipush (-4), 2) := by decide +kernel
theorem dX10_bus_53 : decode cX10_bus 53 = .ok (.ireturn, 1) := by decide +kernel
theorem dX10_bus_54 : decode cX10_bus 54 = .ok (.aload_n 0, 1) := by decide +kernel
theorem dX10_bus_55 : decode cX10_bus 55 = .ok (.getfield 26, 3) := by decide +kernel
theorem dX10_bus_58 : decode cX10_bus 58 = .ok (.iload_n 1, 1) := by decide +kernel
theorem dX10_bus_59 : decode cX10_bus 59 = .ok (.iload_n 2, 1) := by decide +kernel
theorem dX10_bus_60 : decode cX10_bus 60 = .ok (.iload_n 3, 1) := by decide +kernel
theorem dX10_bus_61 : decode cX10_bus 61 = .ok (.iload 4, 2) := by decide +kernel
theorem dX10_bus_63 : decode cX10_bus 63 = .ok (.invokevirtual 144, 3) := by decide +kernel
theorem dX10_bus_66 : decode cX10_bus 66 = .ok (.ireturn, 1) := by decide +kernel
theorem dX10_zoneTold_0 : decode cX10_zoneTold 0 = .ok (.aload_n 0, 1) := by decide +kernel
theorem dX10_zoneTold_1 : decode cX10_zoneTold 1 = .ok (.iload_n 1, 1) := by decide +kernel
theorem dX10_zoneTold_2 : decode cX10_zoneTold 2 = .ok (.invokevirtual 114, 3) := by decide +kernel
theorem dX10_zoneTold_5 : decode cX10_zoneTold 5 = .ok (.ifCond .eq 6, 3) := by decide +kernel
theorem dX10_zoneTold_8 : decode cX10_zoneTold 8 = .ok (.bipush (-2), 2) := by decide +kernel
theorem dX10_zoneTold_10 : decode cX10_zoneTold 10 = .ok (.ireturn, 1) := by decide +kernel
theorem dX10_zoneTold_11 : decode cX10_zoneTold 11 = .ok (.iload_n 2, 1) := by decide +kernel
theorem dX10_zoneTold_12 : decode cX10_zoneTold 12 = .ok (.tableswitch 135 0 6 #[44, 54, 64, 74, 84, 94, 104], 44) := by decide +kernel
theorem dX10_zoneTold_56 : decode cX10_zoneTold 56 = .ok (.aload_n 0, 1) := by decide +kernel
theorem dX10_zoneTold_57 : decode cX10_zoneTold 57 = .ok (.getfield 10, 3) := by decide +kernel
theorem dX10_zoneTold_60 : decode cX10_zoneTold 60 = .ok (.getfield 98, 3) := by decide +kernel
theorem dX10_zoneTold_63 : decode cX10_zoneTold 63 = .ok (.iload_n 1, 1) := by decide +kernel
theorem dX10_zoneTold_64 : decode cX10_zoneTold 64 = .ok (.iaload, 1) := by decide +kernel
theorem dX10_zoneTold_65 : decode cX10_zoneTold 65 = .ok (.ireturn, 1) := by decide +kernel
theorem dX10_zoneTold_66 : decode cX10_zoneTold 66 = .ok (.aload_n 0, 1) := by decide +kernel
theorem dX10_zoneTold_67 : decode cX10_zoneTold 67 = .ok (.getfield 57, 3) := by decide +kernel
theorem dX10_zoneTold_70 : decode cX10_zoneTold 70 = .ok (.getfield 102, 3) := by decide +kernel
theorem dX10_zoneTold_73 : decode cX10_zoneTold 73 = .ok (.iload_n 1, 1) := by decide +kernel
theorem dX10_zoneTold_74 : decode cX10_zoneTold 74 = .ok (.iaload, 1) := by decide +kernel
theorem dX10_zoneTold_75 : decode cX10_zoneTold 75 = .ok (.ireturn, 1) := by decide +kernel
theorem dX10_zoneTold_76 : decode cX10_zoneTold 76 = .ok (.aload_n 0, 1) := by decide +kernel
theorem dX10_zoneTold_77 : decode cX10_zoneTold 77 = .ok (.getfield 57, 3) := by decide +kernel
theorem dX10_zoneTold_80 : decode cX10_zoneTold 80 = .ok (.getfield 147, 3) := by decide +kernel
theorem dX10_zoneTold_83 : decode cX10_zoneTold 83 = .ok (.iload_n 1, 1) := by decide +kernel
theorem dX10_zoneTold_84 : decode cX10_zoneTold 84 = .ok (.iaload, 1) := by decide +kernel
theorem dX10_zoneTold_85 : decode cX10_zoneTold 85 = .ok (.ireturn, 1) := by decide +kernel
theorem dX10_zoneTold_86 : decode cX10_zoneTold 86 = .ok (.aload_n 0, 1) := by decide +kernel
theorem dX10_zoneTold_87 : decode cX10_zoneTold 87 = .ok (.getfield 57, 3) := by decide +kernel
theorem dX10_zoneTold_90 : decode cX10_zoneTold 90 = .ok (.getfield 105, 3) := by decide +kernel
theorem dX10_zoneTold_93 : decode cX10_zoneTold 93 = .ok (.iload_n 1, 1) := by decide +kernel
theorem dX10_zoneTold_94 : decode cX10_zoneTold 94 = .ok (.iaload, 1) := by decide +kernel
theorem dX10_zoneTold_95 : decode cX10_zoneTold 95 = .ok (.ireturn, 1) := by decide +kernel
theorem dX10_zoneTold_96 : decode cX10_zoneTold 96 = .ok (.aload_n 0, 1) := by decide +kernel
theorem dX10_zoneTold_97 : decode cX10_zoneTold 97 = .ok (.getfield 57, 3) := by decide +kernel
theorem dX10_zoneTold_100 : decode cX10_zoneTold 100 = .ok (.getfield 150, 3) := by decide +kernel
theorem dX10_zoneTold_103 : decode cX10_zoneTold 103 = .ok (.iload_n 1, 1) := by decide +kernel
theorem dX10_zoneTold_104 : decode cX10_zoneTold 104 = .ok (.iaload, 1) := by decide +kernel
theorem dX10_zoneTold_105 : decode cX10_zoneTold 105 = .ok (.ireturn, 1) := by decide +kernel
theorem dX10_zoneTold_106 : decode cX10_zoneTold 106 = .ok (.aload_n 0, 1) := by decide +kernel
theorem dX10_zoneTold_107 : decode cX10_zoneTold 107 = .ok (.getfield 10, 3) := by decide +kernel
theorem dX10_zoneTold_110 : decode cX10_zoneTold 110 = .ok (.getfield 134, 3) := by decide +kernel
theorem dX10_zoneTold_113 : decode cX10_zoneTold 113 = .ok (.iload_n 1, 1) := by decide +kernel
theorem dX10_zoneTold_114 : decode cX10_zoneTold 114 = .ok (.iaload, 1) := by decide +kernel
theorem dX10_zoneTold_115 : decode cX10_zoneTold 115 = .ok (.ireturn, 1) := by decide +kernel
theorem dX10_zoneTold_116 : decode cX10_zoneTold 116 = .ok (.aload_n 0, 1) := by decide +kernel
theorem dX10_zoneTold_117 : decode cX10_zoneTold 117 = .ok (.getfield 66, 3) := by decide +kernel
theorem dX10_zoneTold_120 : decode cX10_zoneTold 120 = .ok (.iload_n 1, 1) := by decide +kernel
theorem dX10_zoneTold_121 : decode cX10_zoneTold 121 = .ok (.aload_n 0, 1) := by decide +kernel
theorem dX10_zoneTold_122 : decode cX10_zoneTold 122 = .ok (.getfield 33, 3) := by decide +kernel
theorem dX10_zoneTold_125 : decode cX10_zoneTold 125 = .ok (.getfield 153, 3) := by decide +kernel
theorem dX10_zoneTold_128 : decode cX10_zoneTold 128 = .ok (.aload_n 0, 1) := by decide +kernel
theorem dX10_zoneTold_129 : decode cX10_zoneTold 129 = .ok (.getfield 57, 3) := by decide +kernel
theorem dX10_zoneTold_132 : decode cX10_zoneTold 132 = .ok (.getfield 91, 3) := by decide +kernel
theorem dX10_zoneTold_135 : decode cX10_zoneTold 135 = .ok (.invokevirtual 156, 3) := by decide +kernel
theorem dX10_zoneTold_138 : decode cX10_zoneTold 138 = .ok (.ifCond .eq 7, 3) := by decide +kernel
theorem dX10_zoneTold_141 : decode cX10_zoneTold 141 = .ok (.iconst 1, 1) := by decide +kernel
theorem dX10_zoneTold_142 : decode cX10_zoneTold 142 = .ok (.goto 4, 3) := by decide +kernel
theorem dX10_zoneTold_145 : decode cX10_zoneTold 145 = .ok (.iconst 0, 1) := by decide +kernel
theorem dX10_zoneTold_146 : decode cX10_zoneTold 146 = .ok (.ireturn, 1) := by decide +kernel
theorem dX10_zoneTold_147 : decode cX10_zoneTold 147 = .ok (.bipush (-2), 2) := by decide +kernel
theorem dX10_zoneTold_149 : decode cX10_zoneTold 149 = .ok (.ireturn, 1) := by decide +kernel
theorem dX10_shelterTold_0 : decode cX10_shelterTold 0 = .ok (.aload_n 0, 1) := by decide +kernel
theorem dX10_shelterTold_1 : decode cX10_shelterTold 1 = .ok (.iload_n 1, 1) := by decide +kernel
theorem dX10_shelterTold_2 : decode cX10_shelterTold 2 = .ok (.invokevirtual 140, 3) := by decide +kernel
theorem dX10_shelterTold_5 : decode cX10_shelterTold 5 = .ok (.ifCond .eq 6, 3) := by decide +kernel
theorem dX10_shelterTold_8 : decode cX10_shelterTold 8 = .ok (.bipush (-2), 2) := by decide +kernel
theorem dX10_shelterTold_10 : decode cX10_shelterTold 10 = .ok (.ireturn, 1) := by decide +kernel
theorem dX10_shelterTold_11 : decode cX10_shelterTold 11 = .ok (.iload_n 2, 1) := by decide +kernel
theorem dX10_shelterTold_12 : decode cX10_shelterTold 12 = .ok (.lookupswitch 48 #[(0, 28), (1, 38)], 28) := by decide +kernel
theorem dX10_shelterTold_40 : decode cX10_shelterTold 40 = .ok (.aload_n 0, 1) := by decide +kernel
theorem dX10_shelterTold_41 : decode cX10_shelterTold 41 = .ok (.getfield 57, 3) := by decide +kernel
theorem dX10_shelterTold_44 : decode cX10_shelterTold 44 = .ok (.getfield 111, 3) := by decide +kernel
theorem dX10_shelterTold_47 : decode cX10_shelterTold 47 = .ok (.iload_n 1, 1) := by decide +kernel
theorem dX10_shelterTold_48 : decode cX10_shelterTold 48 = .ok (.iaload, 1) := by decide +kernel
theorem dX10_shelterTold_49 : decode cX10_shelterTold 49 = .ok (.ireturn, 1) := by decide +kernel
theorem dX10_shelterTold_50 : decode cX10_shelterTold 50 = .ok (.aload_n 0, 1) := by decide +kernel
theorem dX10_shelterTold_51 : decode cX10_shelterTold 51 = .ok (.getfield 57, 3) := by decide +kernel
theorem dX10_shelterTold_54 : decode cX10_shelterTold 54 = .ok (.getfield 159, 3) := by decide +kernel
theorem dX10_shelterTold_57 : decode cX10_shelterTold 57 = .ok (.iload_n 1, 1) := by decide +kernel
theorem dX10_shelterTold_58 : decode cX10_shelterTold 58 = .ok (.iaload, 1) := by decide +kernel
theorem dX10_shelterTold_59 : decode cX10_shelterTold 59 = .ok (.ireturn, 1) := by decide +kernel
theorem dX10_shelterTold_60 : decode cX10_shelterTold 60 = .ok (.bipush (-2), 2) := by decide +kernel
theorem dX10_shelterTold_62 : decode cX10_shelterTold 62 = .ok (.ireturn, 1) := by decide +kernel
theorem dX10_roadTold_0 : decode cX10_roadTold 0 = .ok (.aload_n 0, 1) := by decide +kernel
theorem dX10_roadTold_1 : decode cX10_roadTold 1 = .ok (.iload_n 1, 1) := by decide +kernel
theorem dX10_roadTold_2 : decode cX10_roadTold 2 = .ok (.invokevirtual 128, 3) := by decide +kernel
theorem dX10_roadTold_5 : decode cX10_roadTold 5 = .ok (.ifCond .eq 6, 3) := by decide +kernel
theorem dX10_roadTold_8 : decode cX10_roadTold 8 = .ok (.bipush (-2), 2) := by decide +kernel
theorem dX10_roadTold_10 : decode cX10_roadTold 10 = .ok (.ireturn, 1) := by decide +kernel
theorem dX10_roadTold_11 : decode cX10_roadTold 11 = .ok (.iload_n 2, 1) := by decide +kernel
theorem dX10_roadTold_12 : decode cX10_roadTold 12 = .ok (.tableswitch 113 0 5 #[40, 50, 60, 70, 80, 90], 40) := by decide +kernel
theorem dX10_roadTold_52 : decode cX10_roadTold 52 = .ok (.aload_n 0, 1) := by decide +kernel
theorem dX10_roadTold_53 : decode cX10_roadTold 53 = .ok (.getfield 19, 3) := by decide +kernel
theorem dX10_roadTold_56 : decode cX10_roadTold 56 = .ok (.getfield 162, 3) := by decide +kernel
theorem dX10_roadTold_59 : decode cX10_roadTold 59 = .ok (.iload_n 1, 1) := by decide +kernel
theorem dX10_roadTold_60 : decode cX10_roadTold 60 = .ok (.iaload, 1) := by decide +kernel
theorem dX10_roadTold_61 : decode cX10_roadTold 61 = .ok (.ireturn, 1) := by decide +kernel
theorem dX10_roadTold_62 : decode cX10_roadTold 62 = .ok (.aload_n 0, 1) := by decide +kernel
theorem dX10_roadTold_63 : decode cX10_roadTold 63 = .ok (.getfield 19, 3) := by decide +kernel
theorem dX10_roadTold_66 : decode cX10_roadTold 66 = .ok (.getfield 131, 3) := by decide +kernel
theorem dX10_roadTold_69 : decode cX10_roadTold 69 = .ok (.iload_n 1, 1) := by decide +kernel
theorem dX10_roadTold_70 : decode cX10_roadTold 70 = .ok (.iaload, 1) := by decide +kernel
theorem dX10_roadTold_71 : decode cX10_roadTold 71 = .ok (.ireturn, 1) := by decide +kernel
theorem dX10_roadTold_72 : decode cX10_roadTold 72 = .ok (.aload_n 0, 1) := by decide +kernel
theorem dX10_roadTold_73 : decode cX10_roadTold 73 = .ok (.getfield 19, 3) := by decide +kernel
theorem dX10_roadTold_76 : decode cX10_roadTold 76 = .ok (.getfield 165, 3) := by decide +kernel
theorem dX10_roadTold_79 : decode cX10_roadTold 79 = .ok (.iload_n 1, 1) := by decide +kernel
theorem dX10_roadTold_80 : decode cX10_roadTold 80 = .ok (.iaload, 1) := by decide +kernel
theorem dX10_roadTold_81 : decode cX10_roadTold 81 = .ok (.ireturn, 1) := by decide +kernel
theorem dX10_roadTold_82 : decode cX10_roadTold 82 = .ok (.aload_n 0, 1) := by decide +kernel
theorem dX10_roadTold_83 : decode cX10_roadTold 83 = .ok (.getfield 19, 3) := by decide +kernel
theorem dX10_roadTold_86 : decode cX10_roadTold 86 = .ok (.getfield 168, 3) := by decide +kernel
theorem dX10_roadTold_89 : decode cX10_roadTold 89 = .ok (.iload_n 1, 1) := by decide +kernel
theorem dX10_roadTold_90 : decode cX10_roadTold 90 = .ok (.iaload, 1) := by decide +kernel
theorem dX10_roadTold_91 : decode cX10_roadTold 91 = .ok (.ireturn, 1) := by decide +kernel
theorem dX10_roadTold_92 : decode cX10_roadTold 92 = .ok (.aload_n 0, 1) := by decide +kernel
theorem dX10_roadTold_93 : decode cX10_roadTold 93 = .ok (.getfield 19, 3) := by decide +kernel
theorem dX10_roadTold_96 : decode cX10_roadTold 96 = .ok (.getfield 137, 3) := by decide +kernel
theorem dX10_roadTold_99 : decode cX10_roadTold 99 = .ok (.iload_n 1, 1) := by decide +kernel
theorem dX10_roadTold_100 : decode cX10_roadTold 100 = .ok (.iaload, 1) := by decide +kernel
theorem dX10_roadTold_101 : decode cX10_roadTold 101 = .ok (.ireturn, 1) := by decide +kernel
theorem dX10_roadTold_102 : decode cX10_roadTold 102 = .ok (.aload_n 0, 1) := by decide +kernel
theorem dX10_roadTold_103 : decode cX10_roadTold 103 = .ok (.getfield 66, 3) := by decide +kernel
theorem dX10_roadTold_106 : decode cX10_roadTold 106 = .ok (.iload_n 1, 1) := by decide +kernel
theorem dX10_roadTold_107 : decode cX10_roadTold 107 = .ok (.aload_n 0, 1) := by decide +kernel
theorem dX10_roadTold_108 : decode cX10_roadTold 108 = .ok (.getfield 33, 3) := by decide +kernel
theorem dX10_roadTold_111 : decode cX10_roadTold 111 = .ok (.getfield 153, 3) := by decide +kernel
theorem dX10_roadTold_114 : decode cX10_roadTold 114 = .ok (.aload_n 0, 1) := by decide +kernel
theorem dX10_roadTold_115 : decode cX10_roadTold 115 = .ok (.getfield 57, 3) := by decide +kernel
theorem dX10_roadTold_118 : decode cX10_roadTold 118 = .ok (.getfield 91, 3) := by decide +kernel
theorem dX10_roadTold_121 : decode cX10_roadTold 121 = .ok (.invokevirtual 171, 3) := by decide +kernel
theorem dX10_roadTold_124 : decode cX10_roadTold 124 = .ok (.ireturn, 1) := by decide +kernel
theorem dX10_roadTold_125 : decode cX10_roadTold 125 = .ok (.bipush (-2), 2) := by decide +kernel
theorem dX10_roadTold_127 : decode cX10_roadTold 127 = .ok (.ireturn, 1) := by decide +kernel
theorem dX10_busTold_0 : decode cX10_busTold 0 = .ok (.iload_n 1, 1) := by decide +kernel
theorem dX10_busTold_1 : decode cX10_busTold 1 = .ok (.iconst 0, 1) := by decide +kernel
theorem dX10_busTold_2 : decode cX10_busTold 2 = .ok (.aload_n 0, 1) := by decide +kernel
theorem dX10_busTold_3 : decode cX10_busTold 3 = .ok (.getfield 26, 3) := by decide +kernel
theorem dX10_busTold_6 : decode cX10_busTold 6 = .ok (.getfield 143, 3) := by decide +kernel
theorem dX10_busTold_9 : decode cX10_busTold 9 = .ok (.iconst 1, 1) := by decide +kernel
theorem dX10_busTold_10 : decode cX10_busTold 10 = .ok (.isub, 1) := by decide +kernel
theorem dX10_busTold_11 : decode cX10_busTold 11 = .ok (.invokestatic 86, 3) := by decide +kernel
theorem dX10_busTold_14 : decode cX10_busTold 14 = .ok (.ifCond .eq 6, 3) := by decide +kernel
theorem dX10_busTold_17 : decode cX10_busTold 17 = .ok (.bipush (-2), 2) := by decide +kernel
theorem dX10_busTold_19 : decode cX10_busTold 19 = .ok (.ireturn, 1) := by decide +kernel
theorem dX10_busTold_20 : decode cX10_busTold 20 = .ok (.iload_n 2, 1) := by decide +kernel
theorem dX10_busTold_21 : decode cX10_busTold 21 = .ok (.tableswitch 66 0 2 #[27, 46, 56], 27) := by decide +kernel
theorem dX10_busTold_48 : decode cX10_busTold 48 = .ok (.aload_n 0, 1) := by decide +kernel
theorem dX10_busTold_49 : decode cX10_busTold 49 = .ok (.getfield 57, 3) := by decide +kernel
theorem dX10_busTold_52 : decode cX10_busTold 52 = .ok (.getfield 175, 3) := by decide +kernel
theorem dX10_busTold_55 : decode cX10_busTold 55 = .ok (.iload_n 1, 1) := by decide +kernel
theorem dX10_busTold_56 : decode cX10_busTold 56 = .ok (.iaload, 1) := by decide +kernel
theorem dX10_busTold_57 : decode cX10_busTold 57 = .ok (.iconst (-1), 1) := by decide +kernel
theorem dX10_busTold_58 : decode cX10_busTold 58 = .ok (.if_icmp .ne 7, 3) := by decide +kernel
theorem dX10_busTold_61 : decode cX10_busTold 61 = .ok (.iconst 1, 1) := by decide +kernel
theorem dX10_busTold_62 : decode cX10_busTold 62 = .ok (.goto 4, 3) := by decide +kernel
theorem dX10_busTold_65 : decode cX10_busTold 65 = .ok (.iconst 0, 1) := by decide +kernel
theorem dX10_busTold_66 : decode cX10_busTold 66 = .ok (.ireturn, 1) := by decide +kernel
theorem dX10_busTold_67 : decode cX10_busTold 67 = .ok (.aload_n 0, 1) := by decide +kernel
theorem dX10_busTold_68 : decode cX10_busTold 68 = .ok (.getfield 57, 3) := by decide +kernel
theorem dX10_busTold_71 : decode cX10_busTold 71 = .ok (.getfield 178, 3) := by decide +kernel
theorem dX10_busTold_74 : decode cX10_busTold 74 = .ok (.iload_n 1, 1) := by decide +kernel
theorem dX10_busTold_75 : decode cX10_busTold 75 = .ok (.iaload, 1) := by decide +kernel
theorem dX10_busTold_76 : decode cX10_busTold 76 = .ok (.ireturn, 1) := by decide +kernel
theorem dX10_busTold_77 : decode cX10_busTold 77 = .ok (.aload_n 0, 1) := by decide +kernel
theorem dX10_busTold_78 : decode cX10_busTold 78 = .ok (.getfield 57, 3) := by decide +kernel
theorem dX10_busTold_81 : decode cX10_busTold 81 = .ok (.getfield 175, 3) := by decide +kernel
theorem dX10_busTold_84 : decode cX10_busTold 84 = .ok (.iload_n 1, 1) := by decide +kernel
theorem dX10_busTold_85 : decode cX10_busTold 85 = .ok (.iaload, 1) := by decide +kernel
theorem dX10_busTold_86 : decode cX10_busTold 86 = .ok (.ireturn, 1) := by decide +kernel
theorem dX10_busTold_87 : decode cX10_busTold 87 = .ok (.bipush (-2), 2) := by decide +kernel
theorem dX10_busTold_89 : decode cX10_busTold 89 = .ok (.ireturn, 1) := by decide +kernel
theorem dX10_end_0 : decode cX10_end 0 = .ok (.iload_n 1, 1) := by decide +kernel
theorem dX10_end_1 : decode cX10_end 1 = .ok (.iconst 1, 1) := by decide +kernel
theorem dX10_end_2 : decode cX10_end 2 = .ok (.bipush 60, 2) := by decide +kernel
theorem dX10_end_4 : decode cX10_end 4 = .ok (.invokestatic 86, 3) := by decide +kernel
theorem dX10_end_7 : decode cX10_end 7 = .ok (.ifCond .ne 14, 3) := by decide +kernel
theorem dX10_end_10 : decode cX10_end 10 = .ok (.iload_n 1, 1) := by decide +kernel
theorem dX10_end_11 : decode cX10_end 11 = .ok (.aload_n 0, 1) := by decide +kernel
theorem dX10_end_12 : decode cX10_end 12 = .ok (.getfield 57, 3) := by decide +kernel
theorem dX10_end_15 : decode cX10_end 15 = .ok (.getfield 91, 3) := by decide +kernel
theorem dX10_end_18 : decode cX10_end 18 = .ok (.if_icmp .ge 6, 3) := by decide +kernel
theorem dX10_end_21 : decode cX10_end 21 = .ok (.bipush (-2), 2) := by decide +kernel
theorem dX10_end_23 : decode cX10_end 23 = .ok (.ireturn, 1) := by decide +kernel
theorem dX10_end_24 : decode cX10_end 24 = .ok (.aload_n 0, 1) := by decide +kernel
theorem dX10_end_25 : decode cX10_end 25 = .ok (.getfield 33, 3) := by decide +kernel
theorem dX10_end_28 : decode cX10_end 28 = .ok (.getfield 181, 3) := by decide +kernel
theorem dX10_end_31 : decode cX10_end 31 = .ok (.istore_n 2, 1) := by decide +kernel
theorem dX10_end_32 : decode cX10_end 32 = .ok (.aload_n 0, 1) := by decide +kernel
theorem dX10_end_33 : decode cX10_end 33 = .ok (.getfield 33, 3) := by decide +kernel
theorem dX10_end_36 : decode cX10_end 36 = .ok (.iload_n 1, 1) := by decide +kernel
theorem dX10_end_37 : decode cX10_end 37 = .ok (.putfield 181, 3) := by decide +kernel
theorem dX10_end_40 : decode cX10_end 40 = .ok (.iload_n 2, 1) := by decide +kernel
theorem dX10_end_41 : decode cX10_end 41 = .ok (.ireturn, 1) := by decide +kernel
theorem dX10_likely_0 : decode cX10_likely 0 = .ok (.iload_n 1, 1) := by decide +kernel
theorem dX10_likely_1 : decode cX10_likely 1 = .ok (.invokestatic 184, 3) := by decide +kernel
theorem dX10_likely_4 : decode cX10_likely 4 = .ok (.ifCond .ne 12, 3) := by decide +kernel
theorem dX10_likely_7 : decode cX10_likely 7 = .ok (.iload_n 2, 1) := by decide +kernel
theorem dX10_likely_8 : decode cX10_likely 8 = .ok (.iconst 0, 1) := by decide +kernel
theorem dX10_likely_9 : decode cX10_likely 9 = .ok (.iconst 1, 1) := by decide +kernel
theorem dX10_likely_10 : decode cX10_likely 10 = .ok (.invokestatic 86, 3) := by decide +kernel
theorem dX10_likely_13 : decode cX10_likely 13 = .ok (.ifCond .eq 6, 3) := by decide +kernel
theorem dX10_likely_16 : decode cX10_likely 16 = .ok (.bipush (-2), 2) := by decide +kernel
theorem dX10_likely_18 : decode cX10_likely 18 = .ok (.ireturn, 1) := by decide +kernel
theorem dX10_likely_19 : decode cX10_likely 19 = .ok (.aload_n 0, 1) := by decide +kernel
theorem dX10_likely_20 : decode cX10_likely 20 = .ok (.getfield 33, 3) := by decide +kernel
theorem dX10_likely_23 : decode cX10_likely 23 = .ok (.getfield 187, 3) := by decide +kernel
theorem dX10_likely_26 : decode cX10_likely 26 = .ok (.iload_n 1, 1) := by decide +kernel
theorem dX10_likely_27 : decode cX10_likely 27 = .ok (.baload, 1) := by decide +kernel
theorem dX10_likely_28 : decode cX10_likely 28 = .ok (.ifCond .eq 7, 3) := by decide +kernel
theorem dX10_likely_31 : decode cX10_likely 31 = .ok (.iconst 1, 1) := by decide +kernel
theorem dX10_likely_32 : decode cX10_likely 32 = .ok (.goto 4, 3) := by decide +kernel
theorem dX10_likely_35 : decode cX10_likely 35 = .ok (.iconst 0, 1) := by decide +kernel
theorem dX10_likely_36 : decode cX10_likely 36 = .ok (.istore_n 3, 1) := by decide +kernel
theorem dX10_likely_37 : decode cX10_likely 37 = .ok (.aload_n 0, 1) := by decide +kernel
theorem dX10_likely_38 : decode cX10_likely 38 = .ok (.getfield 33, 3) := by decide +kernel
theorem dX10_likely_41 : decode cX10_likely 41 = .ok (.getfield 187, 3) := by decide +kernel
theorem dX10_likely_44 : decode cX10_likely 44 = .ok (.iload_n 1, 1) := by decide +kernel
theorem dX10_likely_45 : decode cX10_likely 45 = .ok (.iload_n 2, 1) := by decide +kernel
theorem dX10_likely_46 : decode cX10_likely 46 = .ok (.iconst 1, 1) := by decide +kernel
theorem dX10_likely_47 : decode cX10_likely 47 = .ok (.if_icmp .ne 7, 3) := by decide +kernel
theorem dX10_likely_50 : decode cX10_likely 50 = .ok (.iconst 1, 1) := by decide +kernel
theorem dX10_likely_51 : decode cX10_likely 51 = .ok (.goto 4, 3) := by decide +kernel
theorem dX10_likely_54 : decode cX10_likely 54 = .ok (.iconst 0, 1) := by decide +kernel
theorem dX10_likely_55 : decode cX10_likely 55 = .ok (.bastore, 1) := by decide +kernel
theorem dX10_likely_56 : decode cX10_likely 56 = .ok (.iload_n 3, 1) := by decide +kernel
theorem dX10_likely_57 : decode cX10_likely 57 = .ok (.ireturn, 1) := by decide +kernel
theorem dX10_truth_0 : decode cX10_truth 0 = .ok (.iload_n 1, 1) := by decide +kernel
theorem dX10_truth_1 : decode cX10_truth 1 = .ok (.invokestatic 184, 3) := by decide +kernel
theorem dX10_truth_4 : decode cX10_truth 4 = .ok (.ifCond .eq 6, 3) := by decide +kernel
theorem dX10_truth_7 : decode cX10_truth 7 = .ok (.bipush (-2), 2) := by decide +kernel
theorem dX10_truth_9 : decode cX10_truth 9 = .ok (.ireturn, 1) := by decide +kernel
theorem dX10_truth_10 : decode cX10_truth 10 = .ok (.aload_n 0, 1) := by decide +kernel
theorem dX10_truth_11 : decode cX10_truth 11 = .ok (.getfield 33, 3) := by decide +kernel
theorem dX10_truth_14 : decode cX10_truth 14 = .ok (.getfield 153, 3) := by decide +kernel
theorem dX10_truth_17 : decode cX10_truth 17 = .ok (.istore_n 2, 1) := by decide +kernel
theorem dX10_truth_18 : decode cX10_truth 18 = .ok (.aload_n 0, 1) := by decide +kernel
theorem dX10_truth_19 : decode cX10_truth 19 = .ok (.getfield 33, 3) := by decide +kernel
theorem dX10_truth_22 : decode cX10_truth 22 = .ok (.iload_n 1, 1) := by decide +kernel
theorem dX10_truth_23 : decode cX10_truth 23 = .ok (.putfield 153, 3) := by decide +kernel
theorem dX10_truth_26 : decode cX10_truth 26 = .ok (.iload_n 2, 1) := by decide +kernel
theorem dX10_truth_27 : decode cX10_truth 27 = .ok (.ireturn, 1) := by decide +kernel
theorem dX10_news_0 : decode cX10_news 0 = .ok (.aload_n 0, 1) := by decide +kernel
theorem dX10_news_1 : decode cX10_news 1 = .ok (.getfield 33, 3) := by decide +kernel
theorem dX10_news_4 : decode cX10_news 4 = .ok (.aload_n 0, 1) := by decide +kernel
theorem dX10_news_5 : decode cX10_news 5 = .ok (.getfield 57, 3) := by decide +kernel
theorem dX10_news_8 : decode cX10_news 8 = .ok (.getfield 91, 3) := by decide +kernel
theorem dX10_news_11 : decode cX10_news 11 = .ok (.iload_n 1, 1) := by decide +kernel
theorem dX10_news_12 : decode cX10_news 12 = .ok (.iload_n 2, 1) := by decide +kernel
theorem dX10_news_13 : decode cX10_news 13 = .ok (.iload_n 3, 1) := by decide +kernel
theorem dX10_news_14 : decode cX10_news 14 = .ok (.iload 4, 2) := by decide +kernel
theorem dX10_news_16 : decode cX10_news 16 = .ok (.iload 5, 2) := by decide +kernel
theorem dX10_news_18 : decode cX10_news 18 = .ok (.invokevirtual 191, 3) := by decide +kernel
theorem dX10_news_21 : decode cX10_news 21 = .ok (.ireturn, 1) := by decide +kernel
theorem dX10_known_0 : decode cX10_known 0 = .ok (.iload_n 1, 1) := by decide +kernel
theorem dX10_known_1 : decode cX10_known 1 = .ok (.invokestatic 184, 3) := by decide +kernel
theorem dX10_known_4 : decode cX10_known 4 = .ok (.ifCond .ne 38, 3) := by decide +kernel
theorem dX10_known_7 : decode cX10_known 7 = .ok (.iload_n 2, 1) := by decide +kernel
theorem dX10_known_8 : decode cX10_known 8 = .ok (.iconst 0, 1) := by decide +kernel
theorem dX10_known_9 : decode cX10_known 9 = .ok (.bipush 60, 2) := by decide +kernel
theorem dX10_known_11 : decode cX10_known 11 = .ok (.invokestatic 86, 3) := by decide +kernel
theorem dX10_known_14 : decode cX10_known 14 = .ok (.ifCond .ne 28, 3) := by decide +kernel
theorem dX10_known_17 : decode cX10_known 17 = .ok (.iload_n 3, 1) := by decide +kernel
theorem dX10_known_18 : decode cX10_known 18 = .ok (.iconst 0, 1) := by decide +kernel
theorem dX10_known_19 : decode cX10_known 19 = .ok (.aload_n 0, 1) := by decide +kernel
theorem dX10_known_20 : decode cX10_known 20 = .ok (.getfield 57, 3) := by decide +kernel
theorem dX10_known_23 : decode cX10_known 23 = .ok (.getfield 91, 3) := by decide +kernel
theorem dX10_known_26 : decode cX10_known 26 = .ok (.invokestatic 86, 3) := by decide +kernel
theorem dX10_known_29 : decode cX10_known 29 = .ok (.ifCond .ne 13, 3) := by decide +kernel
theorem dX10_known_32 : decode cX10_known 32 = .ok (.iload 4, 2) := by decide +kernel
theorem dX10_known_34 : decode cX10_known 34 = .ok (.iconst 0, 1) := by decide +kernel
theorem dX10_known_35 : decode cX10_known 35 = .ok (.iconst 1, 1) := by decide +kernel
theorem dX10_known_36 : decode cX10_known 36 = .ok (.invokestatic 86, 3) := by decide +kernel
theorem dX10_known_39 : decode cX10_known 39 = .ok (.ifCond .eq 6, 3) := by decide +kernel
theorem dX10_known_42 : decode cX10_known 42 = .ok (.bipush (-2), 2) := by decide +kernel
theorem dX10_known_44 : decode cX10_known 44 = .ok (.ireturn, 1) := by decide +kernel
theorem dX10_known_45 : decode cX10_known 45 = .ok (.iload 4, 2) := by decide +kernel
theorem dX10_known_47 : decode cX10_known 47 = .ok (.ifCond .ne 16, 3) := by decide +kernel
theorem dX10_known_50 : decode cX10_known 50 = .ok (.aload_n 0, 1) := by decide +kernel
theorem dX10_known_51 : decode cX10_known 51 = .ok (.getfield 33, 3) := by decide +kernel
theorem dX10_known_54 : decode cX10_known 54 = .ok (.iload_n 1, 1) := by decide +kernel
theorem dX10_known_55 : decode cX10_known 55 = .ok (.iload_n 2, 1) := by decide +kernel
theorem dX10_known_56 : decode cX10_known 56 = .ok (.iload_n 3, 1) := by decide +kernel
theorem dX10_known_57 : decode cX10_known 57 = .ok (.invokevirtual 195, 3) := by decide +kernel
theorem dX10_known_60 : decode cX10_known 60 = .ok (.goto 13, 3) := by decide +kernel
theorem dX10_known_63 : decode cX10_known 63 = .ok (.aload_n 0, 1) := by decide +kernel
theorem dX10_known_64 : decode cX10_known 64 = .ok (.getfield 33, 3) := by decide +kernel
theorem dX10_known_67 : decode cX10_known 67 = .ok (.iload_n 1, 1) := by decide +kernel
theorem dX10_known_68 : decode cX10_known 68 = .ok (.iload_n 2, 1) := by decide +kernel
theorem dX10_known_69 : decode cX10_known 69 = .ok (.iload_n 3, 1) := by decide +kernel
theorem dX10_known_70 : decode cX10_known 70 = .ok (.invokevirtual 198, 3) := by decide +kernel
theorem dX10_known_73 : decode cX10_known 73 = .ok (.ireturn, 1) := by decide +kernel
theorem dX10_feed_0 : decode cX10_feed 0 = .ok (.iload_n 1, 1) := by decide +kernel
theorem dX10_feed_1 : decode cX10_feed 1 = .ok (.iconst 1, 1) := by decide +kernel
theorem dX10_feed_2 : decode cX10_feed 2 = .ok (.bipush 8, 2) := by decide +kernel
theorem dX10_feed_4 : decode cX10_feed 4 = .ok (.invokestatic 86, 3) := by decide +kernel
theorem dX10_feed_7 : decode cX10_feed 7 = .ok (.ifCond .eq 6, 3) := by decide +kernel
theorem dX10_feed_10 : decode cX10_feed 10 = .ok (.bipush (-2), 2) := by decide +kernel
theorem dX10_feed_12 : decode cX10_feed 12 = .ok (.ireturn, 1) := by decide +kernel
theorem dX10_feed_13 : decode cX10_feed 13 = .ok (.aload_n 0, 1) := by decide +kernel
theorem dX10_feed_14 : decode cX10_feed 14 = .ok (.getfield 40, 3) := by decide +kernel
theorem dX10_feed_17 : decode cX10_feed 17 = .ok (.iload_n 1, 1) := by decide +kernel
theorem dX10_feed_18 : decode cX10_feed 18 = .ok (.lload_n 2, 1) := by decide +kernel
theorem dX10_feed_19 : decode cX10_feed 19 = .ok (.invokevirtual 201, 3) := by decide +kernel
theorem dX10_feed_22 : decode cX10_feed 22 = .ok (.ireturn, 1) := by decide +kernel
theorem dX10_text_0 : decode cX10_text 0 = .ok (.aload_n 0, 1) := by decide +kernel
theorem dX10_text_1 : decode cX10_text 1 = .ok (.getfield 40, 3) := by decide +kernel
theorem dX10_text_4 : decode cX10_text 4 = .ok (.invokevirtual 50, 3) := by decide +kernel
theorem dX10_text_7 : decode cX10_text 7 = .ok (.ireturn, 1) := by decide +kernel
theorem dX10_force_0 : decode cX10_force 0 = .ok (.iload_n 1, 1) := by decide +kernel
theorem dX10_force_1 : decode cX10_force 1 = .ok (.iconst 0, 1) := by decide +kernel
theorem dX10_force_2 : decode cX10_force 2 = .ok (.aload_n 0, 1) := by decide +kernel
theorem dX10_force_3 : decode cX10_force 3 = .ok (.getfield 40, 3) := by decide +kernel
theorem dX10_force_6 : decode cX10_force 6 = .ok (.getfield 205, 3) := by decide +kernel
theorem dX10_force_9 : decode cX10_force 9 = .ok (.iconst 1, 1) := by decide +kernel
theorem dX10_force_10 : decode cX10_force 10 = .ok (.isub, 1) := by decide +kernel
theorem dX10_force_11 : decode cX10_force 11 = .ok (.invokestatic 86, 3) := by decide +kernel
theorem dX10_force_14 : decode cX10_force 14 = .ok (.ifCond .eq 6, 3) := by decide +kernel
theorem dX10_force_17 : decode cX10_force 17 = .ok (.bipush (-2), 2) := by decide +kernel
theorem dX10_force_19 : decode cX10_force 19 = .ok (.ireturn, 1) := by decide +kernel
theorem dX10_force_20 : decode cX10_force 20 = .ok (.aload_n 0, 1) := by decide +kernel
theorem dX10_force_21 : decode cX10_force 21 = .ok (.getfield 40, 3) := by decide +kernel
theorem dX10_force_24 : decode cX10_force 24 = .ok (.getfield 206, 3) := by decide +kernel
theorem dX10_force_27 : decode cX10_force 27 = .ok (.istore_n 2, 1) := by decide +kernel
theorem dX10_force_28 : decode cX10_force 28 = .ok (.aload_n 0, 1) := by decide +kernel
theorem dX10_force_29 : decode cX10_force 29 = .ok (.getfield 40, 3) := by decide +kernel
theorem dX10_force_32 : decode cX10_force 32 = .ok (.iload_n 1, 1) := by decide +kernel
theorem dX10_force_33 : decode cX10_force 33 = .ok (.putfield 206, 3) := by decide +kernel
theorem dX10_force_36 : decode cX10_force 36 = .ok (.iload_n 2, 1) := by decide +kernel
theorem dX10_force_37 : decode cX10_force 37 = .ok (.ireturn, 1) := by decide +kernel
theorem dX10_says_0 : decode cX10_says 0 = .ok (.aload_n 0, 1) := by decide +kernel
theorem dX10_says_1 : decode cX10_says 1 = .ok (.iload_n 1, 1) := by decide +kernel
theorem dX10_says_2 : decode cX10_says 2 = .ok (.invokevirtual 114, 3) := by decide +kernel
theorem dX10_says_5 : decode cX10_says 5 = .ok (.ifCond .ne 12, 3) := by decide +kernel
theorem dX10_says_8 : decode cX10_says 8 = .ok (.iload_n 2, 1) := by decide +kernel
theorem dX10_says_9 : decode cX10_says 9 = .ok (.iconst 0, 1) := by decide +kernel
theorem dX10_says_10 : decode cX10_says 10 = .ok (.iconst 1, 1) := by decide +kernel
theorem dX10_says_11 : decode cX10_says 11 = .ok (.invokestatic 86, 3) := by decide +kernel
theorem dX10_says_14 : decode cX10_says 14 = .ok (.ifCond .eq 7, 3) := by decide +kernel
theorem dX10_says_17 : decode cX10_says 17 = .ok (.ldc2_w 209, 3) := by decide +kernel
theorem dX10_says_20 : decode cX10_says 20 = .ok (.lreturn, 1) := by decide +kernel
theorem dX10_says_21 : decode cX10_says 21 = .ok (.aload_n 0, 1) := by decide +kernel
theorem dX10_says_22 : decode cX10_says 22 = .ok (.getfield 66, 3) := by decide +kernel
theorem dX10_says_25 : decode cX10_says 25 = .ok (.aload_n 0, 1) := by decide +kernel
theorem dX10_says_26 : decode cX10_says 26 = .ok (.getfield 57, 3) := by decide +kernel
theorem dX10_says_29 : decode cX10_says 29 = .ok (.iload_n 1, 1) := by decide +kernel
theorem dX10_says_30 : decode cX10_says 30 = .ok (.aload_n 0, 1) := by decide +kernel
theorem dX10_says_31 : decode cX10_says 31 = .ok (.getfield 33, 3) := by decide +kernel
theorem dX10_says_34 : decode cX10_says 34 = .ok (.getfield 153, 3) := by decide +kernel
theorem dX10_says_37 : decode cX10_says 37 = .ok (.invokevirtual 211, 3) := by decide +kernel
theorem dX10_says_40 : decode cX10_says 40 = .ok (.aload_n 0, 1) := by decide +kernel
theorem dX10_says_41 : decode cX10_says 41 = .ok (.getfield 40, 3) := by decide +kernel
theorem dX10_says_44 : decode cX10_says 44 = .ok (.iload_n 2, 1) := by decide +kernel
theorem dX10_says_45 : decode cX10_says 45 = .ok (.aload_n 0, 1) := by decide +kernel
theorem dX10_says_46 : decode cX10_says 46 = .ok (.getfield 66, 3) := by decide +kernel
theorem dX10_says_49 : decode cX10_says 49 = .ok (.getfield 215, 3) := by decide +kernel
theorem dX10_says_52 : decode cX10_says 52 = .ok (.invokevirtual 218, 3) := by decide +kernel
theorem dX10_says_55 : decode cX10_says 55 = .ok (.i2l, 1) := by decide +kernel
theorem dX10_says_56 : decode cX10_says 56 = .ok (.lreturn, 1) := by decide +kernel
theorem dX10_call_0 : decode cX10_call 0 = .ok (.aload_n 0, 1) := by decide +kernel
theorem dX10_call_1 : decode cX10_call 1 = .ok (.iload_n 1, 1) := by decide +kernel
theorem dX10_call_2 : decode cX10_call 2 = .ok (.invokevirtual 114, 3) := by decide +kernel
theorem dX10_call_5 : decode cX10_call 5 = .ok (.ifCond .eq 6, 3) := by decide +kernel
theorem dX10_call_8 : decode cX10_call 8 = .ok (.bipush (-2), 2) := by decide +kernel
theorem dX10_call_10 : decode cX10_call 10 = .ok (.ireturn, 1) := by decide +kernel
theorem dX10_call_11 : decode cX10_call 11 = .ok (.aload_n 0, 1) := by decide +kernel
theorem dX10_call_12 : decode cX10_call 12 = .ok (.getfield 57, 3) := by decide +kernel
theorem dX10_call_15 : decode cX10_call 15 = .ok (.getfield 150, 3) := by decide +kernel
theorem dX10_call_18 : decode cX10_call 18 = .ok (.iload_n 1, 1) := by decide +kernel
theorem dX10_call_19 : decode cX10_call 19 = .ok (.iaload, 1) := by decide +kernel
theorem dX10_call_20 : decode cX10_call 20 = .ok (.iconst (-1), 1) := by decide +kernel
theorem dX10_call_21 : decode cX10_call 21 = .ok (.if_icmp .ne 20, 3) := by decide +kernel
theorem dX10_call_24 : decode cX10_call 24 = .ok (.aload_n 0, 1) := by decide +kernel
theorem dX10_call_25 : decode cX10_call 25 = .ok (.getfield 57, 3) := by decide +kernel
theorem dX10_call_28 : decode cX10_call 28 = .ok (.getfield 91, 3) := by decide +kernel
theorem dX10_call_31 : decode cX10_call 31 = .ok (.aload_n 0, 1) := by decide +kernel
theorem dX10_call_32 : decode cX10_call 32 = .ok (.getfield 33, 3) := by decide +kernel
theorem dX10_call_35 : decode cX10_call 35 = .ok (.getfield 181, 3) := by decide +kernel
theorem dX10_call_38 : decode cX10_call 38 = .ok (.if_icmp .lt 6, 3) := by decide +kernel
theorem dX10_call_41 : decode cX10_call 41 = .ok (.bipush (-3), 2) := by decide +kernel
theorem dX10_call_43 : decode cX10_call 43 = .ok (.ireturn, 1) := by decide +kernel
theorem dX10_call_44 : decode cX10_call 44 = .ok (.aload_n 0, 1) := by decide +kernel
theorem dX10_call_45 : decode cX10_call 45 = .ok (.getfield 57, 3) := by decide +kernel
theorem dX10_call_48 : decode cX10_call 48 = .ok (.getfield 150, 3) := by decide +kernel
theorem dX10_call_51 : decode cX10_call 51 = .ok (.iload_n 1, 1) := by decide +kernel
theorem dX10_call_52 : decode cX10_call 52 = .ok (.aload_n 0, 1) := by decide +kernel
theorem dX10_call_53 : decode cX10_call 53 = .ok (.getfield 57, 3) := by decide +kernel
theorem dX10_call_56 : decode cX10_call 56 = .ok (.getfield 91, 3) := by decide +kernel
theorem dX10_call_59 : decode cX10_call 59 = .ok (.iastore, 1) := by decide +kernel
theorem dX10_call_60 : decode cX10_call 60 = .ok (.aload_n 0, 1) := by decide +kernel
theorem dX10_call_61 : decode cX10_call 61 = .ok (.getfield 57, 3) := by decide +kernel
theorem dX10_call_64 : decode cX10_call 64 = .ok (.getfield 91, 3) := by decide +kernel
theorem dX10_call_67 : decode cX10_call 67 = .ok (.ireturn, 1) := by decide +kernel
theorem dX10_good_0 : decode cX10_good 0 = .ok (.aload_n 0, 1) := by decide +kernel
theorem dX10_good_1 : decode cX10_good 1 = .ok (.iload_n 1, 1) := by decide +kernel
theorem dX10_good_2 : decode cX10_good 2 = .ok (.invokevirtual 114, 3) := by decide +kernel
theorem dX10_good_5 : decode cX10_good 5 = .ok (.ifCond .eq 6, 3) := by decide +kernel
theorem dX10_good_8 : decode cX10_good 8 = .ok (.bipush (-2), 2) := by decide +kernel
theorem dX10_good_10 : decode cX10_good 10 = .ok (.ireturn, 1) := by decide +kernel
theorem dX10_good_11 : decode cX10_good 11 = .ok (.aload_n 0, 1) := by decide +kernel
theorem dX10_good_12 : decode cX10_good 12 = .ok (.getfield 57, 3) := by decide +kernel
theorem dX10_good_15 : decode cX10_good 15 = .ok (.getfield 150, 3) := by decide +kernel
theorem dX10_good_18 : decode cX10_good 18 = .ok (.iload_n 1, 1) := by decide +kernel
theorem dX10_good_19 : decode cX10_good 19 = .ok (.iaload, 1) := by decide +kernel
theorem dX10_good_20 : decode cX10_good 20 = .ok (.istore_n 2, 1) := by decide +kernel
theorem dX10_good_21 : decode cX10_good 21 = .ok (.iload_n 2, 1) := by decide +kernel
theorem dX10_good_22 : decode cX10_good 22 = .ok (.iconst (-1), 1) := by decide +kernel
theorem dX10_good_23 : decode cX10_good 23 = .ok (.if_icmp .ne 5, 3) := by decide +kernel
theorem dX10_good_26 : decode cX10_good 26 = .ok (.iconst (-1), 1) := by decide +kernel
theorem dX10_good_27 : decode cX10_good 27 = .ok (.ireturn, 1) := by decide +kernel
theorem dX10_good_28 : decode cX10_good 28 = .ok (.aload_n 0, 1) := by decide +kernel
theorem dX10_good_29 : decode cX10_good 29 = .ok (.getfield 33, 3) := by decide +kernel
theorem dX10_good_32 : decode cX10_good 32 = .ok (.aload_n 0, 1) := by decide +kernel
theorem dX10_good_33 : decode cX10_good 33 = .ok (.getfield 10, 3) := by decide +kernel
theorem dX10_good_36 : decode cX10_good 36 = .ok (.getfield 98, 3) := by decide +kernel
theorem dX10_good_39 : decode cX10_good 39 = .ok (.iload_n 1, 1) := by decide +kernel
theorem dX10_good_40 : decode cX10_good 40 = .ok (.iaload, 1) := by decide +kernel
theorem dX10_good_41 : decode cX10_good 41 = .ok (.iload_n 2, 1) := by decide +kernel
theorem dX10_good_42 : decode cX10_good 42 = .ok (.invokevirtual 222, 3) := by decide +kernel
theorem dX10_good_45 : decode cX10_good 45 = .ok (.ifCond .eq 7, 3) := by decide +kernel
theorem dX10_good_48 : decode cX10_good 48 = .ok (.iconst 1, 1) := by decide +kernel
theorem dX10_good_49 : decode cX10_good 49 = .ok (.goto 4, 3) := by decide +kernel
theorem dX10_good_52 : decode cX10_good 52 = .ok (.iconst 0, 1) := by decide +kernel
theorem dX10_good_53 : decode cX10_good 53 = .ok (.ireturn, 1) := by decide +kernel
theorem dX10_pass_0 : decode cX10_pass 0 = .ok (.iload_n 1, 1) := by decide +kernel
theorem dX10_pass_1 : decode cX10_pass 1 = .ok (.iconst 1, 1) := by decide +kernel
theorem dX10_pass_2 : decode cX10_pass 2 = .ok (.bipush 60, 2) := by decide +kernel
theorem dX10_pass_4 : decode cX10_pass 4 = .ok (.invokestatic 86, 3) := by decide +kernel
theorem dX10_pass_7 : decode cX10_pass 7 = .ok (.ifCond .eq 6, 3) := by decide +kernel
theorem dX10_pass_10 : decode cX10_pass 10 = .ok (.bipush (-2), 2) := by decide +kernel
theorem dX10_pass_12 : decode cX10_pass 12 = .ok (.ireturn, 1) := by decide +kernel
theorem dX10_pass_13 : decode cX10_pass 13 = .ok (.aload_n 0, 1) := by decide +kernel
theorem dX10_pass_14 : decode cX10_pass 14 = .ok (.getfield 57, 3) := by decide +kernel
theorem dX10_pass_17 : decode cX10_pass 17 = .ok (.getfield 91, 3) := by decide +kernel
theorem dX10_pass_20 : decode cX10_pass 20 = .ok (.iload_n 1, 1) := by decide +kernel
theorem dX10_pass_21 : decode cX10_pass 21 = .ok (.iadd, 1) := by decide +kernel
theorem dX10_pass_22 : decode cX10_pass 22 = .ok (.aload_n 0, 1) := by decide +kernel
theorem dX10_pass_23 : decode cX10_pass 23 = .ok (.getfield 33, 3) := by decide +kernel
theorem dX10_pass_26 : decode cX10_pass 26 = .ok (.getfield 181, 3) := by decide +kernel
theorem dX10_pass_29 : decode cX10_pass 29 = .ok (.if_icmp .le 6, 3) := by decide +kernel
theorem dX10_pass_32 : decode cX10_pass 32 = .ok (.bipush (-4), 2) := by decide +kernel
theorem dX10_pass_34 : decode cX10_pass 34 = .ok (.ireturn, 1) := by decide +kernel
theorem dX10_pass_35 : decode cX10_pass 35 = .ok (.iconst 0, 1) := by decide +kernel
theorem dX10_pass_36 : decode cX10_pass 36 = .ok (.istore_n 2, 1) := by decide +kernel
theorem dX10_pass_37 : decode cX10_pass 37 = .ok (.iload_n 2, 1) := by decide +kernel
theorem dX10_pass_38 : decode cX10_pass 38 = .ok (.iload_n 1, 1) := by decide +kernel
theorem dX10_pass_39 : decode cX10_pass 39 = .ok (.if_icmp .ge 27, 3) := by decide +kernel
theorem dX10_pass_42 : decode cX10_pass 42 = .ok (.aload_n 0, 1) := by decide +kernel
theorem dX10_pass_43 : decode cX10_pass 43 = .ok (.getfield 66, 3) := by decide +kernel
theorem dX10_pass_46 : decode cX10_pass 46 = .ok (.aload_n 0, 1) := by decide +kernel
theorem dX10_pass_47 : decode cX10_pass 47 = .ok (.getfield 57, 3) := by decide +kernel
theorem dX10_pass_50 : decode cX10_pass 50 = .ok (.aload_n 0, 1) := by decide +kernel
theorem dX10_pass_51 : decode cX10_pass 51 = .ok (.getfield 33, 3) := by decide +kernel
theorem dX10_pass_54 : decode cX10_pass 54 = .ok (.getfield 153, 3) := by decide +kernel
theorem dX10_pass_57 : decode cX10_pass 57 = .ok (.invokevirtual 226, 3) := by decide +kernel
theorem dX10_pass_60 : decode cX10_pass 60 = .ok (.iinc 2 1, 3) := by decide +kernel
theorem dX10_pass_63 : decode cX10_pass 63 = .ok (.goto (-26), 3) := by decide +kernel
theorem dX10_pass_66 : decode cX10_pass 66 = .ok (.aload_n 0, 1) := by decide +kernel
theorem dX10_pass_67 : decode cX10_pass 67 = .ok (.getfield 57, 3) := by decide +kernel
theorem dX10_pass_70 : decode cX10_pass 70 = .ok (.getfield 91, 3) := by decide +kernel
theorem dX10_pass_73 : decode cX10_pass 73 = .ok (.ireturn, 1) := by decide +kernel
theorem dX10_inWater_0 : decode cX10_inWater 0 = .ok (.aload_n 0, 1) := by decide +kernel
theorem dX10_inWater_1 : decode cX10_inWater 1 = .ok (.getfield 66, 3) := by decide +kernel
theorem dX10_inWater_4 : decode cX10_inWater 4 = .ok (.aload_n 0, 1) := by decide +kernel
theorem dX10_inWater_5 : decode cX10_inWater 5 = .ok (.getfield 57, 3) := by decide +kernel
theorem dX10_inWater_8 : decode cX10_inWater 8 = .ok (.aload_n 0, 1) := by decide +kernel
theorem dX10_inWater_9 : decode cX10_inWater 9 = .ok (.getfield 33, 3) := by decide +kernel
theorem dX10_inWater_12 : decode cX10_inWater 12 = .ok (.getfield 153, 3) := by decide +kernel
theorem dX10_inWater_15 : decode cX10_inWater 15 = .ok (.aload_n 0, 1) := by decide +kernel
theorem dX10_inWater_16 : decode cX10_inWater 16 = .ok (.getfield 57, 3) := by decide +kernel
theorem dX10_inWater_19 : decode cX10_inWater 19 = .ok (.getfield 91, 3) := by decide +kernel
theorem dX10_inWater_22 : decode cX10_inWater 22 = .ok (.invokevirtual 230, 3) := by decide +kernel
theorem dX10_inWater_25 : decode cX10_inWater 25 = .ok (.ireturn, 1) := by decide +kernel
theorem dX10_foresee_0 : decode cX10_foresee 0 = .ok (.iload_n 1, 1) := by decide +kernel
theorem dX10_foresee_1 : decode cX10_foresee 1 = .ok (.invokestatic 184, 3) := by decide +kernel
theorem dX10_foresee_4 : decode cX10_foresee 4 = .ok (.ifCond .ne 9, 3) := by decide +kernel
theorem dX10_foresee_7 : decode cX10_foresee 7 = .ok (.lload_n 2, 1) := by decide +kernel
theorem dX10_foresee_8 : decode cX10_foresee 8 = .ok (.lconst 0, 1) := by decide +kernel
theorem dX10_foresee_9 : decode cX10_foresee 9 = .ok (.lcmp, 1) := by decide +kernel
theorem dX10_foresee_10 : decode cX10_foresee 10 = .ok (.ifCond .ge 7, 3) := by decide +kernel
theorem dX10_foresee_13 : decode cX10_foresee 13 = .ok (.ldc2_w 209, 3) := by decide +kernel
theorem dX10_foresee_16 : decode cX10_foresee 16 = .ok (.lreturn, 1) := by decide +kernel
theorem dX10_foresee_17 : decode cX10_foresee 17 = .ok (.lload_n 2, 1) := by decide +kernel
theorem dX10_foresee_18 : decode cX10_foresee 18 = .ok (.lstore 4, 2) := by decide +kernel
theorem dX10_foresee_20 : decode cX10_foresee 20 = .ok (.iconst 0, 1) := by decide +kernel
theorem dX10_foresee_21 : decode cX10_foresee 21 = .ok (.istore 6, 2) := by decide +kernel
theorem dX10_foresee_23 : decode cX10_foresee 23 = .ok (.iload 6, 2) := by decide +kernel
theorem dX10_foresee_25 : decode cX10_foresee 25 = .ok (.aload_n 0, 1) := by decide +kernel
theorem dX10_foresee_26 : decode cX10_foresee 26 = .ok (.getfield 10, 3) := by decide +kernel
theorem dX10_foresee_29 : decode cX10_foresee 29 = .ok (.getfield 95, 3) := by decide +kernel
theorem dX10_foresee_32 : decode cX10_foresee 32 = .ok (.if_icmp .ge 104, 3) := by decide +kernel
theorem dX10_foresee_35 : decode cX10_foresee 35 = .ok (.lload 4, 2) := by decide +kernel
theorem dX10_foresee_37 : decode cX10_foresee 37 = .ok (.ldc2_w 234, 3) := by decide +kernel
theorem dX10_foresee_40 : decode cX10_foresee 40 = .ok (.lrem, 1) := by decide +kernel
theorem dX10_foresee_41 : decode cX10_foresee 41 = .ok (.l2i, 1) := by decide +kernel
theorem dX10_foresee_42 : decode cX10_foresee 42 = .ok (.istore 7, 2) := by decide +kernel
theorem dX10_foresee_44 : decode cX10_foresee 44 = .ok (.lload 4, 2) := by decide +kernel
theorem dX10_foresee_46 : decode cX10_foresee 46 = .ok (.ldc2_w 234, 3) := by decide +kernel
theorem dX10_foresee_49 : decode cX10_foresee 49 = .ok (.ldiv, 1) := by decide +kernel
theorem dX10_foresee_50 : decode cX10_foresee 50 = .ok (.lstore 4, 2) := by decide +kernel
theorem dX10_foresee_52 : decode cX10_foresee 52 = .ok (.iload 7, 2) := by decide +kernel
theorem dX10_foresee_54 : decode cX10_foresee 54 = .ok (.bipush 99, 2) := by decide +kernel
theorem dX10_foresee_56 : decode cX10_foresee 56 = .ok (.if_icmp .ne 7, 3) := by decide +kernel
theorem dX10_foresee_59 : decode cX10_foresee 59 = .ok (.iconst 1, 1) := by decide +kernel
theorem dX10_foresee_60 : decode cX10_foresee 60 = .ok (.goto 4, 3) := by decide +kernel
theorem dX10_foresee_63 : decode cX10_foresee 63 = .ok (.iconst 0, 1) := by decide +kernel
theorem dX10_foresee_64 : decode cX10_foresee 64 = .ok (.istore 8, 2) := by decide +kernel
theorem dX10_foresee_66 : decode cX10_foresee 66 = .ok (.aload_n 0, 1) := by decide +kernel
theorem dX10_foresee_67 : decode cX10_foresee 67 = .ok (.getfield 57, 3) := by decide +kernel
theorem dX10_foresee_70 : decode cX10_foresee 70 = .ok (.getfield 150, 3) := by decide +kernel
theorem dX10_foresee_73 : decode cX10_foresee 73 = .ok (.iload 6, 2) := by decide +kernel
theorem dX10_foresee_75 : decode cX10_foresee 75 = .ok (.iaload, 1) := by decide +kernel
theorem dX10_foresee_76 : decode cX10_foresee 76 = .ok (.iconst (-1), 1) := by decide +kernel
theorem dX10_foresee_77 : decode cX10_foresee 77 = .ok (.if_icmp .ne 32, 3) := by decide +kernel
theorem dX10_foresee_80 : decode cX10_foresee 80 = .ok (.iload 8, 2) := by decide +kernel
theorem dX10_foresee_82 : decode cX10_foresee 82 = .ok (.ifCond .ne 27, 3) := by decide +kernel
theorem dX10_foresee_85 : decode cX10_foresee 85 = .ok (.aload_n 0, 1) := by decide +kernel
theorem dX10_foresee_86 : decode cX10_foresee 86 = .ok (.getfield 57, 3) := by decide +kernel
theorem dX10_foresee_89 : decode cX10_foresee 89 = .ok (.getfield 91, 3) := by decide +kernel
theorem dX10_foresee_92 : decode cX10_foresee 92 = .ok (.iload 7, 2) := by decide +kernel
theorem dX10_foresee_94 : decode cX10_foresee 94 = .ok (.iadd, 1) := by decide +kernel
theorem dX10_foresee_95 : decode cX10_foresee 95 = .ok (.aload_n 0, 1) := by decide +kernel
theorem dX10_foresee_96 : decode cX10_foresee 96 = .ok (.getfield 33, 3) := by decide +kernel
theorem dX10_foresee_99 : decode cX10_foresee 99 = .ok (.getfield 181, 3) := by decide +kernel
theorem dX10_foresee_102 : decode cX10_foresee 102 = .ok (.if_icmp .le 7, 3) := by decide +kernel
theorem dX10_foresee_105 : decode cX10_foresee 105 = .ok (.ldc2_w 209, 3) := by decide +kernel
theorem dX10_foresee_108 : decode cX10_foresee 108 = .ok (.lreturn, 1) := by decide +kernel
theorem dX10_foresee_109 : decode cX10_foresee 109 = .ok (.aload_n 0, 1) := by decide +kernel
theorem dX10_foresee_110 : decode cX10_foresee 110 = .ok (.getfield 75, 3) := by decide +kernel
theorem dX10_foresee_113 : decode cX10_foresee 113 = .ok (.getfield 236, 3) := by decide +kernel
theorem dX10_foresee_116 : decode cX10_foresee 116 = .ok (.iload 6, 2) := by decide +kernel
theorem dX10_foresee_118 : decode cX10_foresee 118 = .ok (.iload 8, 2) := by decide +kernel
theorem dX10_foresee_120 : decode cX10_foresee 120 = .ok (.ifCond .eq 7, 3) := by decide +kernel
theorem dX10_foresee_123 : decode cX10_foresee 123 = .ok (.iconst (-1), 1) := by decide +kernel
theorem dX10_foresee_124 : decode cX10_foresee 124 = .ok (.goto 5, 3) := by decide +kernel
theorem dX10_foresee_127 : decode cX10_foresee 127 = .ok (.iload 7, 2) := by decide +kernel
theorem dX10_foresee_129 : decode cX10_foresee 129 = .ok (.iastore, 1) := by decide +kernel
theorem dX10_foresee_130 : decode cX10_foresee 130 = .ok (.iinc 6 1, 3) := by decide +kernel
theorem dX10_foresee_133 : decode cX10_foresee 133 = .ok (.goto (-110), 3) := by decide +kernel
theorem dX10_foresee_136 : decode cX10_foresee 136 = .ok (.lload 4, 2) := by decide +kernel
theorem dX10_foresee_138 : decode cX10_foresee 138 = .ok (.lconst 0, 1) := by decide +kernel
theorem dX10_foresee_139 : decode cX10_foresee 139 = .ok (.lcmp, 1) := by decide +kernel
theorem dX10_foresee_140 : decode cX10_foresee 140 = .ok (.ifCond .ne 15, 3) := by decide +kernel
theorem dX10_foresee_143 : decode cX10_foresee 143 = .ok (.aload_n 0, 1) := by decide +kernel
theorem dX10_foresee_144 : decode cX10_foresee 144 = .ok (.getfield 75, 3) := by decide +kernel
theorem dX10_foresee_147 : decode cX10_foresee 147 = .ok (.iload_n 1, 1) := by decide +kernel
theorem dX10_foresee_148 : decode cX10_foresee 148 = .ok (.invokevirtual 239, 3) := by decide +kernel
theorem dX10_foresee_151 : decode cX10_foresee 151 = .ok (.i2l, 1) := by decide +kernel
theorem dX10_foresee_152 : decode cX10_foresee 152 = .ok (.goto 6, 3) := by decide +kernel
theorem dX10_foresee_155 : decode cX10_foresee 155 = .ok (.ldc2_w 209, 3) := by decide +kernel
theorem dX10_foresee_158 : decode cX10_foresee 158 = .ok (.lreturn, 1) := by decide +kernel
theorem dX10_best_0 : decode cX10_best 0 = .ok (.iload_n 1, 1) := by decide +kernel
theorem dX10_best_1 : decode cX10_best 1 = .ok (.iconst 0, 1) := by decide +kernel
theorem dX10_best_2 : decode cX10_best 2 = .ok (.iconst 1, 1) := by decide +kernel
theorem dX10_best_3 : decode cX10_best 3 = .ok (.aload_n 0, 1) := by decide +kernel
theorem dX10_best_4 : decode cX10_best 4 = .ok (.getfield 10, 3) := by decide +kernel
theorem dX10_best_7 : decode cX10_best 7 = .ok (.getfield 95, 3) := by decide +kernel
theorem dX10_best_10 : decode cX10_best 10 = .ok (.ishl, 1) := by decide +kernel
theorem dX10_best_11 : decode cX10_best 11 = .ok (.iconst 1, 1) := by decide +kernel
theorem dX10_best_12 : decode cX10_best 12 = .ok (.isub, 1) := by decide +kernel
theorem dX10_best_13 : decode cX10_best 13 = .ok (.invokestatic 86, 3) := by decide +kernel
theorem dX10_best_16 : decode cX10_best 16 = .ok (.ifCond .ne 11, 3) := by decide +kernel
theorem dX10_best_19 : decode cX10_best 19 = .ok (.iload_n 1, 1) := by decide +kernel
theorem dX10_best_20 : decode cX10_best 20 = .ok (.invokestatic 243, 3) := by decide +kernel
theorem dX10_best_23 : decode cX10_best 23 = .ok (.iconst 4, 1) := by decide +kernel
theorem dX10_best_24 : decode cX10_best 24 = .ok (.if_icmp .le 7, 3) := by decide +kernel
theorem dX10_best_27 : decode cX10_best 27 = .ok (.ldc2_w 209, 3) := by decide +kernel
theorem dX10_best_30 : decode cX10_best 30 = .ok (.lreturn, 1) := by decide +kernel
theorem dX10_best_31 : decode cX10_best 31 = .ok (.iconst 0, 1) := by decide +kernel
theorem dX10_best_32 : decode cX10_best 32 = .ok (.istore_n 2, 1) := by decide +kernel
theorem dX10_best_33 : decode cX10_best 33 = .ok (.iload_n 2, 1) := by decide +kernel
theorem dX10_best_34 : decode cX10_best 34 = .ok (.aload_n 0, 1) := by decide +kernel
theorem dX10_best_35 : decode cX10_best 35 = .ok (.getfield 10, 3) := by decide +kernel
theorem dX10_best_38 : decode cX10_best 38 = .ok (.getfield 95, 3) := by decide +kernel
theorem dX10_best_41 : decode cX10_best 41 = .ok (.if_icmp .ge 35, 3) := by decide +kernel
theorem dX10_best_44 : decode cX10_best 44 = .ok (.iload_n 1, 1) := by decide +kernel
theorem dX10_best_45 : decode cX10_best 45 = .ok (.iload_n 2, 1) := by decide +kernel
theorem dX10_best_46 : decode cX10_best 46 = .ok (.ishr, 1) := by decide +kernel
theorem dX10_best_47 : decode cX10_best 47 = .ok (.iconst 1, 1) := by decide +kernel
theorem dX10_best_48 : decode cX10_best 48 = .ok (.iand, 1) := by decide +kernel
theorem dX10_best_49 : decode cX10_best 49 = .ok (.iconst 1, 1) := by decide +kernel
theorem dX10_best_50 : decode cX10_best 50 = .ok (.if_icmp .ne 20, 3) := by decide +kernel
theorem dX10_best_53 : decode cX10_best 53 = .ok (.aload_n 0, 1) := by decide +kernel
theorem dX10_best_54 : decode cX10_best 54 = .ok (.getfield 57, 3) := by decide +kernel
theorem dX10_best_57 : decode cX10_best 57 = .ok (.getfield 150, 3) := by decide +kernel
theorem dX10_best_60 : decode cX10_best 60 = .ok (.iload_n 2, 1) := by decide +kernel
theorem dX10_best_61 : decode cX10_best 61 = .ok (.iaload, 1) := by decide +kernel
theorem dX10_best_62 : decode cX10_best 62 = .ok (.iconst (-1), 1) := by decide +kernel
theorem dX10_best_63 : decode cX10_best 63 = .ok (.if_icmp .eq 7, 3) := by decide +kernel
theorem dX10_best_66 : decode cX10_best 66 = .ok (.ldc2_w 209, 3) := by decide +kernel
theorem dX10_best_69 : decode cX10_best 69 = .ok (.lreturn, 1) := by decide +kernel
theorem dX10_best_70 : decode cX10_best 70 = .ok (.iinc 2 1, 3) := by decide +kernel
theorem dX10_best_73 : decode cX10_best 73 = .ok (.goto (-40), 3) := by decide +kernel
theorem dX10_best_76 : decode cX10_best 76 = .ok (.aload_n 0, 1) := by decide +kernel
theorem dX10_best_77 : decode cX10_best 77 = .ok (.getfield 75, 3) := by decide +kernel
theorem dX10_best_80 : decode cX10_best 80 = .ok (.iload_n 1, 1) := by decide +kernel
theorem dX10_best_81 : decode cX10_best 81 = .ok (.invokevirtual 248, 3) := by decide +kernel
theorem dX10_best_84 : decode cX10_best 84 = .ok (.lreturn, 1) := by decide +kernel
theorem dX10_bestCall_0 : decode cX10_bestCall 0 = .ok (.aload_n 0, 1) := by decide +kernel
theorem dX10_bestCall_1 : decode cX10_bestCall 1 = .ok (.iload_n 1, 1) := by decide +kernel
theorem dX10_bestCall_2 : decode cX10_bestCall 2 = .ok (.invokevirtual 114, 3) := by decide +kernel
theorem dX10_bestCall_5 : decode cX10_bestCall 5 = .ok (.ifCond .eq 7, 3) := by decide +kernel
theorem dX10_bestCall_8 : decode cX10_bestCall 8 = .ok (.iconst (-1), 1) := by decide +kernel
theorem dX10_bestCall_9 : decode cX10_bestCall 9 = .ok (.goto 12, 3) := by decide +kernel
theorem dX10_bestCall_12 : decode cX10_bestCall 12 = .ok (.aload_n 0, 1) := by decide +kernel
theorem dX10_bestCall_13 : decode cX10_bestCall 13 = .ok (.getfield 75, 3) := by decide +kernel
theorem dX10_bestCall_16 : decode cX10_bestCall 16 = .ok (.getfield 252, 3) := by decide +kernel
theorem dX10_bestCall_19 : decode cX10_bestCall 19 = .ok (.iload_n 1, 1) := by decide +kernel
theorem dX10_bestCall_20 : decode cX10_bestCall 20 = .ok (.iaload, 1) := by decide +kernel
theorem dX10_bestCall_21 : decode cX10_bestCall 21 = .ok (.ireturn, 1) := by decide +kernel
theorem dX10_count_0 : decode cX10_count 0 = .ok (.iload_n 1, 1) := by decide +kernel
theorem dX10_count_1 : decode cX10_count 1 = .ok (.tableswitch 222 0 15 #[79, 87, 95, 103, 111, 119, 127, 135, 146, 157, 168, 179, 190, 198, 206, 214], 79) := by decide +kernel
theorem dX10_count_80 : decode cX10_count 80 = .ok (.aload_n 0, 1) := by decide +kernel
theorem dX10_count_81 : decode cX10_count 81 = .ok (.getfield 57, 3) := by decide +kernel
theorem dX10_count_84 : decode cX10_count 84 = .ok (.getfield 91, 3) := by decide +kernel
theorem dX10_count_87 : decode cX10_count 87 = .ok (.ireturn, 1) := by decide +kernel
theorem dX10_count_88 : decode cX10_count 88 = .ok (.aload_n 0, 1) := by decide +kernel
theorem dX10_count_89 : decode cX10_count 89 = .ok (.getfield 10, 3) := by decide +kernel
theorem dX10_count_92 : decode cX10_count 92 = .ok (.getfield 95, 3) := by decide +kernel
theorem dX10_count_95 : decode cX10_count 95 = .ok (.ireturn, 1) := by decide +kernel
theorem dX10_count_96 : decode cX10_count 96 = .ok (.aload_n 0, 1) := by decide +kernel
theorem dX10_count_97 : decode cX10_count 97 = .ok (.getfield 10, 3) := by decide +kernel
theorem dX10_count_100 : decode cX10_count 100 = .ok (.getfield 108, 3) := by decide +kernel
theorem dX10_count_103 : decode cX10_count 103 = .ok (.ireturn, 1) := by decide +kernel
theorem dX10_count_104 : decode cX10_count 104 = .ok (.aload_n 0, 1) := by decide +kernel
theorem dX10_count_105 : decode cX10_count 105 = .ok (.getfield 19, 3) := by decide +kernel
theorem dX10_count_108 : decode cX10_count 108 = .ok (.getfield 121, 3) := by decide +kernel
theorem dX10_count_111 : decode cX10_count 111 = .ok (.ireturn, 1) := by decide +kernel
theorem dX10_count_112 : decode cX10_count 112 = .ok (.aload_n 0, 1) := by decide +kernel
theorem dX10_count_113 : decode cX10_count 113 = .ok (.getfield 26, 3) := by decide +kernel
theorem dX10_count_116 : decode cX10_count 116 = .ok (.getfield 143, 3) := by decide +kernel
theorem dX10_count_119 : decode cX10_count 119 = .ok (.ireturn, 1) := by decide +kernel
theorem dX10_count_120 : decode cX10_count 120 = .ok (.aload_n 0, 1) := by decide +kernel
theorem dX10_count_121 : decode cX10_count 121 = .ok (.getfield 33, 3) := by decide +kernel
theorem dX10_count_124 : decode cX10_count 124 = .ok (.getfield 255, 3) := by decide +kernel
theorem dX10_count_127 : decode cX10_count 127 = .ok (.ireturn, 1) := by decide +kernel
theorem dX10_count_128 : decode cX10_count 128 = .ok (.aload_n 0, 1) := by decide +kernel
theorem dX10_count_129 : decode cX10_count 129 = .ok (.getfield 33, 3) := by decide +kernel
theorem dX10_count_132 : decode cX10_count 132 = .ok (.getfield 181, 3) := by decide +kernel
theorem dX10_count_135 : decode cX10_count 135 = .ok (.ireturn, 1) := by decide +kernel
theorem dX10_count_136 : decode cX10_count 136 = .ok (.aload_n 0, 1) := by decide +kernel
theorem dX10_count_137 : decode cX10_count 137 = .ok (.getfield 57, 3) := by decide +kernel
theorem dX10_count_140 : decode cX10_count 140 = .ok (.getfield 102, 3) := by decide +kernel
theorem dX10_count_143 : decode cX10_count 143 = .ok (.invokestatic 256, 3) := by decide +kernel
theorem dX10_count_146 : decode cX10_count 146 = .ok (.ireturn, 1) := by decide +kernel
theorem dX10_count_147 : decode cX10_count 147 = .ok (.aload_n 0, 1) := by decide +kernel
theorem dX10_count_148 : decode cX10_count 148 = .ok (.getfield 57, 3) := by decide +kernel
theorem dX10_count_151 : decode cX10_count 151 = .ok (.getfield 147, 3) := by decide +kernel
theorem dX10_count_154 : decode cX10_count 154 = .ok (.invokestatic 256, 3) := by decide +kernel
theorem dX10_count_157 : decode cX10_count 157 = .ok (.ireturn, 1) := by decide +kernel
theorem dX10_count_158 : decode cX10_count 158 = .ok (.aload_n 0, 1) := by decide +kernel
theorem dX10_count_159 : decode cX10_count 159 = .ok (.getfield 57, 3) := by decide +kernel
theorem dX10_count_162 : decode cX10_count 162 = .ok (.getfield 105, 3) := by decide +kernel
theorem dX10_count_165 : decode cX10_count 165 = .ok (.invokestatic 256, 3) := by decide +kernel
theorem dX10_count_168 : decode cX10_count 168 = .ok (.ireturn, 1) := by decide +kernel
theorem dX10_count_169 : decode cX10_count 169 = .ok (.aload_n 0, 1) := by decide +kernel
theorem dX10_count_170 : decode cX10_count 170 = .ok (.getfield 57, 3) := by decide +kernel
theorem dX10_count_173 : decode cX10_count 173 = .ok (.getfield 178, 3) := by decide +kernel
theorem dX10_count_176 : decode cX10_count 176 = .ok (.invokestatic 256, 3) := by decide +kernel
theorem dX10_count_179 : decode cX10_count 179 = .ok (.ireturn, 1) := by decide +kernel
theorem dX10_count_180 : decode cX10_count 180 = .ok (.aload_n 0, 1) := by decide +kernel
theorem dX10_count_181 : decode cX10_count 181 = .ok (.getfield 57, 3) := by decide +kernel
theorem dX10_count_184 : decode cX10_count 184 = .ok (.getfield 159, 3) := by decide +kernel
theorem dX10_count_187 : decode cX10_count 187 = .ok (.invokestatic 256, 3) := by decide +kernel
theorem dX10_count_190 : decode cX10_count 190 = .ok (.ireturn, 1) := by decide +kernel
theorem dX10_count_191 : decode cX10_count 191 = .ok (.aload_n 0, 1) := by decide +kernel
theorem dX10_count_192 : decode cX10_count 192 = .ok (.getfield 57, 3) := by decide +kernel
theorem dX10_count_195 : decode cX10_count 195 = .ok (.getfield 260, 3) := by decide +kernel
theorem dX10_count_198 : decode cX10_count 198 = .ok (.ireturn, 1) := by decide +kernel
theorem dX10_count_199 : decode cX10_count 199 = .ok (.aload_n 0, 1) := by decide +kernel
theorem dX10_count_200 : decode cX10_count 200 = .ok (.getfield 40, 3) := by decide +kernel
theorem dX10_count_203 : decode cX10_count 203 = .ok (.getfield 205, 3) := by decide +kernel
theorem dX10_count_206 : decode cX10_count 206 = .ok (.ireturn, 1) := by decide +kernel
theorem dX10_count_207 : decode cX10_count 207 = .ok (.aload_n 0, 1) := by decide +kernel
theorem dX10_count_208 : decode cX10_count 208 = .ok (.getfield 40, 3) := by decide +kernel
theorem dX10_count_211 : decode cX10_count 211 = .ok (.getfield 263, 3) := by decide +kernel
theorem dX10_count_214 : decode cX10_count 214 = .ok (.ireturn, 1) := by decide +kernel
theorem dX10_count_215 : decode cX10_count 215 = .ok (.aload_n 0, 1) := by decide +kernel
theorem dX10_count_216 : decode cX10_count 216 = .ok (.getfield 40, 3) := by decide +kernel
theorem dX10_count_219 : decode cX10_count 219 = .ok (.getfield 206, 3) := by decide +kernel
theorem dX10_count_222 : decode cX10_count 222 = .ok (.ireturn, 1) := by decide +kernel
theorem dX10_count_223 : decode cX10_count 223 = .ok (.bipush (-2), 2) := by decide +kernel
theorem dX10_count_225 : decode cX10_count 225 = .ok (.ireturn, 1) := by decide +kernel
theorem dX10_sheet_0 : decode cX10_sheet 0 = .ok (.iload_n 1, 1) := by decide +kernel
theorem dX10_sheet_1 : decode cX10_sheet 1 = .ok (.invokestatic 266, 3) := by decide +kernel
theorem dX10_sheet_4 : decode cX10_sheet 4 = .ok (.ifCond .ne 12, 3) := by decide +kernel
theorem dX10_sheet_7 : decode cX10_sheet 7 = .ok (.iload_n 2, 1) := by decide +kernel
theorem dX10_sheet_8 : decode cX10_sheet 8 = .ok (.iconst (-1), 1) := by decide +kernel
theorem dX10_sheet_9 : decode cX10_sheet 9 = .ok (.iconst 2, 1) := by decide +kernel
theorem dX10_sheet_10 : decode cX10_sheet 10 = .ok (.invokestatic 86, 3) := by decide +kernel
theorem dX10_sheet_13 : decode cX10_sheet 13 = .ok (.ifCond .eq 6, 3) := by decide +kernel
theorem dX10_sheet_16 : decode cX10_sheet 16 = .ok (.bipush (-2), 2) := by decide +kernel
theorem dX10_sheet_18 : decode cX10_sheet 18 = .ok (.ireturn, 1) := by decide +kernel
theorem dX10_sheet_19 : decode cX10_sheet 19 = .ok (.iload_n 2, 1) := by decide +kernel
theorem dX10_sheet_20 : decode cX10_sheet 20 = .ok (.iconst (-1), 1) := by decide +kernel
theorem dX10_sheet_21 : decode cX10_sheet 21 = .ok (.if_icmp .ne 15, 3) := by decide +kernel
theorem dX10_sheet_24 : decode cX10_sheet 24 = .ok (.aload_n 0, 1) := by decide +kernel
theorem dX10_sheet_25 : decode cX10_sheet 25 = .ok (.getfield 82, 3) := by decide +kernel
theorem dX10_sheet_28 : decode cX10_sheet 28 = .ok (.getfield 269, 3) := by decide +kernel
theorem dX10_sheet_31 : decode cX10_sheet 31 = .ok (.iload_n 1, 1) := by decide +kernel
theorem dX10_sheet_32 : decode cX10_sheet 32 = .ok (.iconst (-1), 1) := by decide +kernel
theorem dX10_sheet_33 : decode cX10_sheet 33 = .ok (.iastore, 1) := by decide +kernel
theorem dX10_sheet_34 : decode cX10_sheet 34 = .ok (.iconst 1, 1) := by decide +kernel
theorem dX10_sheet_35 : decode cX10_sheet 35 = .ok (.ireturn, 1) := by decide +kernel
theorem dX10_sheet_36 : decode cX10_sheet 36 = .ok (.iload_n 3, 1) := by decide +kernel
theorem dX10_sheet_37 : decode cX10_sheet 37 = .ok (.bipush 40, 2) := by decide +kernel
theorem dX10_sheet_39 : decode cX10_sheet 39 = .ok (.if_icmp .le 6, 3) := by decide +kernel
theorem dX10_sheet_42 : decode cX10_sheet 42 = .ok (.bipush (-2), 2) := by decide +kernel
theorem dX10_sheet_44 : decode cX10_sheet 44 = .ok (.ireturn, 1) := by decide +kernel
theorem dX10_sheet_45 : decode cX10_sheet 45 = .ok (.iload_n 3, 1) := by decide +kernel
theorem dX10_sheet_46 : decode cX10_sheet 46 = .ok (.ifCond .ge 6, 3) := by decide +kernel
theorem dX10_sheet_49 : decode cX10_sheet 49 = .ok (.bipush (-14), 2) := by decide +kernel
theorem dX10_sheet_51 : decode cX10_sheet 51 = .ok (.ireturn, 1) := by decide +kernel
theorem dX10_sheet_52 : decode cX10_sheet 52 = .ok (.aload_n 0, 1) := by decide +kernel
theorem dX10_sheet_53 : decode cX10_sheet 53 = .ok (.getfield 82, 3) := by decide +kernel
theorem dX10_sheet_56 : decode cX10_sheet 56 = .ok (.iload_n 1, 1) := by decide +kernel
theorem dX10_sheet_57 : decode cX10_sheet 57 = .ok (.iload_n 2, 1) := by decide +kernel
theorem dX10_sheet_58 : decode cX10_sheet 58 = .ok (.iload_n 3, 1) := by decide +kernel
theorem dX10_sheet_59 : decode cX10_sheet 59 = .ok (.invokevirtual 272, 3) := by decide +kernel
theorem dX10_sheet_62 : decode cX10_sheet 62 = .ok (.iconst 1, 1) := by decide +kernel
theorem dX10_sheet_63 : decode cX10_sheet 63 = .ok (.ireturn, 1) := by decide +kernel
theorem dX10_cell_0 : decode cX10_cell 0 = .ok (.iload_n 1, 1) := by decide +kernel
theorem dX10_cell_1 : decode cX10_cell 1 = .ok (.invokestatic 266, 3) := by decide +kernel
theorem dX10_cell_4 : decode cX10_cell 4 = .ok (.ifCond .eq 6, 3) := by decide +kernel
theorem dX10_cell_7 : decode cX10_cell 7 = .ok (.bipush (-2), 2) := by decide +kernel
theorem dX10_cell_9 : decode cX10_cell 9 = .ok (.ireturn, 1) := by decide +kernel
theorem dX10_cell_10 : decode cX10_cell 10 = .ok (.aload_n 0, 1) := by decide +kernel
theorem dX10_cell_11 : decode cX10_cell 11 = .ok (.getfield 82, 3) := by decide +kernel
theorem dX10_cell_14 : decode cX10_cell 14 = .ok (.getfield 269, 3) := by decide +kernel
theorem dX10_cell_17 : decode cX10_cell 17 = .ok (.iload_n 1, 1) := by decide +kernel
theorem dX10_cell_18 : decode cX10_cell 18 = .ok (.iaload, 1) := by decide +kernel
theorem dX10_cell_19 : decode cX10_cell 19 = .ok (.iconst (-1), 1) := by decide +kernel
theorem dX10_cell_20 : decode cX10_cell 20 = .ok (.if_icmp .ne 6, 3) := by decide +kernel
theorem dX10_cell_23 : decode cX10_cell 23 = .ok (.bipush (-11), 2) := by decide +kernel
theorem dX10_cell_25 : decode cX10_cell 25 = .ok (.ireturn, 1) := by decide +kernel
theorem dX10_cell_26 : decode cX10_cell 26 = .ok (.iload_n 2, 1) := by decide +kernel
theorem dX10_cell_27 : decode cX10_cell 27 = .ok (.iconst 0, 1) := by decide +kernel
theorem dX10_cell_28 : decode cX10_cell 28 = .ok (.aload_n 0, 1) := by decide +kernel
theorem dX10_cell_29 : decode cX10_cell 29 = .ok (.getfield 82, 3) := by decide +kernel
theorem dX10_cell_32 : decode cX10_cell 32 = .ok (.getfield 276, 3) := by decide +kernel
theorem dX10_cell_35 : decode cX10_cell 35 = .ok (.iload_n 1, 1) := by decide +kernel
theorem dX10_cell_36 : decode cX10_cell 36 = .ok (.iaload, 1) := by decide +kernel
theorem dX10_cell_37 : decode cX10_cell 37 = .ok (.iconst 1, 1) := by decide +kernel
theorem dX10_cell_38 : decode cX10_cell 38 = .ok (.isub, 1) := by decide +kernel
theorem dX10_cell_39 : decode cX10_cell 39 = .ok (.invokestatic 86, 3) := by decide +kernel
theorem dX10_cell_42 : decode cX10_cell 42 = .ok (.ifCond .eq 6, 3) := by decide +kernel
theorem dX10_cell_45 : decode cX10_cell 45 = .ok (.bipush (-12), 2) := by decide +kernel
theorem dX10_cell_47 : decode cX10_cell 47 = .ok (.ireturn, 1) := by decide +kernel
theorem dX10_cell_48 : decode cX10_cell 48 = .ok (.aload_n 0, 1) := by decide +kernel
theorem dX10_cell_49 : decode cX10_cell 49 = .ok (.getfield 82, 3) := by decide +kernel
theorem dX10_cell_52 : decode cX10_cell 52 = .ok (.iload_n 1, 1) := by decide +kernel
theorem dX10_cell_53 : decode cX10_cell 53 = .ok (.iload_n 2, 1) := by decide +kernel
theorem dX10_cell_54 : decode cX10_cell 54 = .ok (.iload_n 3, 1) := by decide +kernel
theorem dX10_cell_55 : decode cX10_cell 55 = .ok (.invokevirtual 279, 3) := by decide +kernel
theorem dX10_cell_58 : decode cX10_cell 58 = .ok (.iconst 1, 1) := by decide +kernel
theorem dX10_cell_59 : decode cX10_cell 59 = .ok (.ireturn, 1) := by decide +kernel
theorem dX10_copy_0 : decode cX10_copy 0 = .ok (.iload_n 1, 1) := by decide +kernel
theorem dX10_copy_1 : decode cX10_copy 1 = .ok (.invokestatic 266, 3) := by decide +kernel
theorem dX10_copy_4 : decode cX10_copy 4 = .ok (.ifCond .ne 10, 3) := by decide +kernel
theorem dX10_copy_7 : decode cX10_copy 7 = .ok (.iload_n 3, 1) := by decide +kernel
theorem dX10_copy_8 : decode cX10_copy 8 = .ok (.invokestatic 266, 3) := by decide +kernel
theorem dX10_copy_11 : decode cX10_copy 11 = .ok (.ifCond .eq 6, 3) := by decide +kernel
theorem dX10_copy_14 : decode cX10_copy 14 = .ok (.bipush (-2), 2) := by decide +kernel
theorem dX10_copy_16 : decode cX10_copy 16 = .ok (.ireturn, 1) := by decide +kernel
theorem dX10_copy_17 : decode cX10_copy 17 = .ok (.aload_n 0, 1) := by decide +kernel
theorem dX10_copy_18 : decode cX10_copy 18 = .ok (.getfield 82, 3) := by decide +kernel
theorem dX10_copy_21 : decode cX10_copy 21 = .ok (.getfield 269, 3) := by decide +kernel
theorem dX10_copy_24 : decode cX10_copy 24 = .ok (.iload_n 1, 1) := by decide +kernel
theorem dX10_copy_25 : decode cX10_copy 25 = .ok (.iaload, 1) := by decide +kernel
theorem dX10_copy_26 : decode cX10_copy 26 = .ok (.iconst (-1), 1) := by decide +kernel
theorem dX10_copy_27 : decode cX10_copy 27 = .ok (.if_icmp .eq 16, 3) := by decide +kernel
theorem dX10_copy_30 : decode cX10_copy 30 = .ok (.aload_n 0, 1) := by decide +kernel
theorem dX10_copy_31 : decode cX10_copy 31 = .ok (.getfield 82, 3) := by decide +kernel
theorem dX10_copy_34 : decode cX10_copy 34 = .ok (.getfield 269, 3) := by decide +kernel
theorem dX10_copy_37 : decode cX10_copy 37 = .ok (.iload_n 3, 1) := by decide +kernel
theorem dX10_copy_38 : decode cX10_copy 38 = .ok (.iaload, 1) := by decide +kernel
theorem dX10_copy_39 : decode cX10_copy 39 = .ok (.iconst (-1), 1) := by decide +kernel
theorem dX10_copy_40 : decode cX10_copy 40 = .ok (.if_icmp .ne 6, 3) := by decide +kernel
theorem dX10_copy_43 : decode cX10_copy 43 = .ok (.bipush (-11), 2) := by decide +kernel
theorem dX10_copy_45 : decode cX10_copy 45 = .ok (.ireturn, 1) := by decide +kernel
theorem dX10_copy_46 : decode cX10_copy 46 = .ok (.aload_n 0, 1) := by decide +kernel
theorem dX10_copy_47 : decode cX10_copy 47 = .ok (.getfield 82, 3) := by decide +kernel
theorem dX10_copy_50 : decode cX10_copy 50 = .ok (.getfield 269, 3) := by decide +kernel
theorem dX10_copy_53 : decode cX10_copy 53 = .ok (.iload_n 1, 1) := by decide +kernel
theorem dX10_copy_54 : decode cX10_copy 54 = .ok (.iaload, 1) := by decide +kernel
theorem dX10_copy_55 : decode cX10_copy 55 = .ok (.aload_n 0, 1) := by decide +kernel
theorem dX10_copy_56 : decode cX10_copy 56 = .ok (.getfield 82, 3) := by decide +kernel
theorem dX10_copy_59 : decode cX10_copy 59 = .ok (.getfield 269, 3) := by decide +kernel
theorem dX10_copy_62 : decode cX10_copy 62 = .ok (.iload_n 3, 1) := by decide +kernel
theorem dX10_copy_63 : decode cX10_copy 63 = .ok (.iaload, 1) := by decide +kernel
theorem dX10_copy_64 : decode cX10_copy 64 = .ok (.if_icmp .eq 6, 3) := by decide +kernel
theorem dX10_copy_67 : decode cX10_copy 67 = .ok (.bipush (-13), 2) := by decide +kernel
theorem dX10_copy_69 : decode cX10_copy 69 = .ok (.ireturn, 1) := by decide +kernel
theorem dX10_copy_70 : decode cX10_copy 70 = .ok (.iload 5, 2) := by decide +kernel
theorem dX10_copy_72 : decode cX10_copy 72 = .ok (.ifCond .lt 32, 3) := by decide +kernel
theorem dX10_copy_75 : decode cX10_copy 75 = .ok (.aload_n 0, 1) := by decide +kernel
theorem dX10_copy_76 : decode cX10_copy 76 = .ok (.getfield 82, 3) := by decide +kernel
theorem dX10_copy_79 : decode cX10_copy 79 = .ok (.iload_n 1, 1) := by decide +kernel
theorem dX10_copy_80 : decode cX10_copy 80 = .ok (.iload_n 2, 1) := by decide +kernel
theorem dX10_copy_81 : decode cX10_copy 81 = .ok (.iload 5, 2) := by decide +kernel
theorem dX10_copy_83 : decode cX10_copy 83 = .ok (.invokevirtual 281, 3) := by decide +kernel
theorem dX10_copy_86 : decode cX10_copy 86 = .ok (.ifCond .eq 18, 3) := by decide +kernel
theorem dX10_copy_89 : decode cX10_copy 89 = .ok (.aload_n 0, 1) := by decide +kernel
theorem dX10_copy_90 : decode cX10_copy 90 = .ok (.getfield 82, 3) := by decide +kernel
theorem dX10_copy_93 : decode cX10_copy 93 = .ok (.iload_n 3, 1) := by decide +kernel
theorem dX10_copy_94 : decode cX10_copy 94 = .ok (.iload 4, 2) := by decide +kernel
theorem dX10_copy_96 : decode cX10_copy 96 = .ok (.iload 5, 2) := by decide +kernel
theorem dX10_copy_98 : decode cX10_copy 98 = .ok (.invokevirtual 281, 3) := by decide +kernel
theorem dX10_copy_101 : decode cX10_copy 101 = .ok (.ifCond .ne 6, 3) := by decide +kernel
theorem dX10_copy_104 : decode cX10_copy 104 = .ok (.bipush (-12), 2) := by decide +kernel
theorem dX10_copy_106 : decode cX10_copy 106 = .ok (.ireturn, 1) := by decide +kernel
theorem dX10_copy_107 : decode cX10_copy 107 = .ok (.aload_n 0, 1) := by decide +kernel
theorem dX10_copy_108 : decode cX10_copy 108 = .ok (.getfield 82, 3) := by decide +kernel
theorem dX10_copy_111 : decode cX10_copy 111 = .ok (.getfield 284, 3) := by decide +kernel
theorem dX10_copy_114 : decode cX10_copy 114 = .ok (.iload_n 1, 1) := by decide +kernel
theorem dX10_copy_115 : decode cX10_copy 115 = .ok (.aaload, 1) := by decide +kernel
theorem dX10_copy_116 : decode cX10_copy 116 = .ok (.iload_n 2, 1) := by decide +kernel
theorem dX10_copy_117 : decode cX10_copy 117 = .ok (.aload_n 0, 1) := by decide +kernel
theorem dX10_copy_118 : decode cX10_copy 118 = .ok (.getfield 82, 3) := by decide +kernel
theorem dX10_copy_121 : decode cX10_copy 121 = .ok (.getfield 284, 3) := by decide +kernel
theorem dX10_copy_124 : decode cX10_copy 124 = .ok (.iload_n 3, 1) := by decide +kernel
theorem dX10_copy_125 : decode cX10_copy 125 = .ok (.aaload, 1) := by decide +kernel
theorem dX10_copy_126 : decode cX10_copy 126 = .ok (.iload 4, 2) := by decide +kernel
theorem dX10_copy_128 : decode cX10_copy 128 = .ok (.iload 5, 2) := by decide +kernel
theorem dX10_copy_130 : decode cX10_copy 130 = .ok (.invokestatic 288, 3) := by decide +kernel
theorem dX10_copy_133 : decode cX10_copy 133 = .ok (.iload 5, 2) := by decide +kernel
theorem dX10_copy_135 : decode cX10_copy 135 = .ok (.ireturn, 1) := by decide +kernel
theorem dX10_newsRow_0 : decode cX10_newsRow 0 = .ok (.iload_n 1, 1) := by decide +kernel
theorem dX10_newsRow_1 : decode cX10_newsRow 1 = .ok (.invokestatic 184, 3) := by decide +kernel
theorem dX10_newsRow_4 : decode cX10_newsRow 4 = .ok (.ifCond .ne 30, 3) := by decide +kernel
theorem dX10_newsRow_7 : decode cX10_newsRow 7 = .ok (.iload_n 2, 1) := by decide +kernel
theorem dX10_newsRow_8 : decode cX10_newsRow 8 = .ok (.invokestatic 266, 3) := by decide +kernel
theorem dX10_newsRow_11 : decode cX10_newsRow 11 = .ok (.ifCond .ne 23, 3) := by decide +kernel
theorem dX10_newsRow_14 : decode cX10_newsRow 14 = .ok (.iload_n 3, 1) := by decide +kernel
theorem dX10_newsRow_15 : decode cX10_newsRow 15 = .ok (.iconst 0, 1) := by decide +kernel
theorem dX10_newsRow_16 : decode cX10_newsRow 16 = .ok (.iconst 2, 1) := by decide +kernel
theorem dX10_newsRow_17 : decode cX10_newsRow 17 = .ok (.invokestatic 86, 3) := by decide +kernel
theorem dX10_newsRow_20 : decode cX10_newsRow 20 = .ok (.ifCond .ne 14, 3) := by decide +kernel
theorem dX10_newsRow_23 : decode cX10_newsRow 23 = .ok (.iload 5, 2) := by decide +kernel
theorem dX10_newsRow_25 : decode cX10_newsRow 25 = .ok (.iconst 0, 1) := by decide +kernel
theorem dX10_newsRow_26 : decode cX10_newsRow 26 = .ok (.bipush 10, 2) := by decide +kernel
theorem dX10_newsRow_28 : decode cX10_newsRow 28 = .ok (.invokestatic 86, 3) := by decide +kernel
theorem dX10_newsRow_31 : decode cX10_newsRow 31 = .ok (.ifCond .eq 6, 3) := by decide +kernel
theorem dX10_newsRow_34 : decode cX10_newsRow 34 = .ok (.bipush (-2), 2) := by decide +kernel
theorem dX10_newsRow_36 : decode cX10_newsRow 36 = .ok (.ireturn, 1) := by decide +kernel
theorem dX10_newsRow_37 : decode cX10_newsRow 37 = .ok (.aload_n 0, 1) := by decide +kernel
theorem dX10_newsRow_38 : decode cX10_newsRow 38 = .ok (.getfield 82, 3) := by decide +kernel
theorem dX10_newsRow_41 : decode cX10_newsRow 41 = .ok (.getfield 269, 3) := by decide +kernel
theorem dX10_newsRow_44 : decode cX10_newsRow 44 = .ok (.iload_n 2, 1) := by decide +kernel
theorem dX10_newsRow_45 : decode cX10_newsRow 45 = .ok (.iaload, 1) := by decide +kernel
theorem dX10_newsRow_46 : decode cX10_newsRow 46 = .ok (.iconst (-1), 1) := by decide +kernel
theorem dX10_newsRow_47 : decode cX10_newsRow 47 = .ok (.if_icmp .ne 6, 3) := by decide +kernel
theorem dX10_newsRow_50 : decode cX10_newsRow 50 = .ok (.bipush (-11), 2) := by decide +kernel
theorem dX10_newsRow_52 : decode cX10_newsRow 52 = .ok (.ireturn, 1) := by decide +kernel
theorem dX10_newsRow_53 : decode cX10_newsRow 53 = .ok (.aload_n 0, 1) := by decide +kernel
theorem dX10_newsRow_54 : decode cX10_newsRow 54 = .ok (.getfield 82, 3) := by decide +kernel
theorem dX10_newsRow_57 : decode cX10_newsRow 57 = .ok (.getfield 269, 3) := by decide +kernel
theorem dX10_newsRow_60 : decode cX10_newsRow 60 = .ok (.iload_n 2, 1) := by decide +kernel
theorem dX10_newsRow_61 : decode cX10_newsRow 61 = .ok (.iaload, 1) := by decide +kernel
theorem dX10_newsRow_62 : decode cX10_newsRow 62 = .ok (.iload_n 3, 1) := by decide +kernel
theorem dX10_newsRow_63 : decode cX10_newsRow 63 = .ok (.if_icmp .eq 6, 3) := by decide +kernel
theorem dX10_newsRow_66 : decode cX10_newsRow 66 = .ok (.bipush (-13), 2) := by decide +kernel
theorem dX10_newsRow_68 : decode cX10_newsRow 68 = .ok (.ireturn, 1) := by decide +kernel
theorem dX10_newsRow_69 : decode cX10_newsRow 69 = .ok (.iconst 0, 1) := by decide +kernel
theorem dX10_newsRow_70 : decode cX10_newsRow 70 = .ok (.istore 6, 2) := by decide +kernel
theorem dX10_newsRow_72 : decode cX10_newsRow 72 = .ok (.iconst 0, 1) := by decide +kernel
theorem dX10_newsRow_73 : decode cX10_newsRow 73 = .ok (.istore 7, 2) := by decide +kernel
theorem dX10_newsRow_75 : decode cX10_newsRow 75 = .ok (.iload 7, 2) := by decide +kernel
theorem dX10_newsRow_77 : decode cX10_newsRow 77 = .ok (.iload 5, 2) := by decide +kernel
theorem dX10_newsRow_79 : decode cX10_newsRow 79 = .ok (.if_icmp .ge 93, 3) := by decide +kernel
theorem dX10_newsRow_82 : decode cX10_newsRow 82 = .ok (.iload 4, 2) := by decide +kernel
theorem dX10_newsRow_84 : decode cX10_newsRow 84 = .ok (.iload 7, 2) := by decide +kernel
theorem dX10_newsRow_86 : decode cX10_newsRow 86 = .ok (.iconst 4, 1) := by decide +kernel
theorem dX10_newsRow_87 : decode cX10_newsRow 87 = .ok (.imul, 1) := by decide +kernel
theorem dX10_newsRow_88 : decode cX10_newsRow 88 = .ok (.iadd, 1) := by decide +kernel
theorem dX10_newsRow_89 : decode cX10_newsRow 89 = .ok (.istore 8, 2) := by decide +kernel
theorem dX10_newsRow_91 : decode cX10_newsRow 91 = .ok (.aload_n 0, 1) := by decide +kernel
theorem dX10_newsRow_92 : decode cX10_newsRow 92 = .ok (.getfield 82, 3) := by decide +kernel
theorem dX10_newsRow_95 : decode cX10_newsRow 95 = .ok (.iload_n 2, 1) := by decide +kernel
theorem dX10_newsRow_96 : decode cX10_newsRow 96 = .ok (.iload 8, 2) := by decide +kernel
theorem dX10_newsRow_98 : decode cX10_newsRow 98 = .ok (.iconst 4, 1) := by decide +kernel
theorem dX10_newsRow_99 : decode cX10_newsRow 99 = .ok (.invokevirtual 281, 3) := by decide +kernel
theorem dX10_newsRow_102 : decode cX10_newsRow 102 = .ok (.ifCond .ne 6, 3) := by decide +kernel
theorem dX10_newsRow_105 : decode cX10_newsRow 105 = .ok (.bipush (-12), 2) := by decide +kernel
theorem dX10_newsRow_107 : decode cX10_newsRow 107 = .ok (.ireturn, 1) := by decide +kernel
theorem dX10_newsRow_108 : decode cX10_newsRow 108 = .ok (.aload_n 0, 1) := by decide +kernel
theorem dX10_newsRow_109 : decode cX10_newsRow 109 = .ok (.getfield 82, 3) := by decide +kernel
theorem dX10_newsRow_112 : decode cX10_newsRow 112 = .ok (.getfield 284, 3) := by decide +kernel
theorem dX10_newsRow_115 : decode cX10_newsRow 115 = .ok (.iload_n 2, 1) := by decide +kernel
theorem dX10_newsRow_116 : decode cX10_newsRow 116 = .ok (.aaload, 1) := by decide +kernel
theorem dX10_newsRow_117 : decode cX10_newsRow 117 = .ok (.astore 9, 2) := by decide +kernel
theorem dX10_newsRow_119 : decode cX10_newsRow 119 = .ok (.aload_n 0, 1) := by decide +kernel
theorem dX10_newsRow_120 : decode cX10_newsRow 120 = .ok (.getfield 33, 3) := by decide +kernel
theorem dX10_newsRow_123 : decode cX10_newsRow 123 = .ok (.aload_n 0, 1) := by decide +kernel
theorem dX10_newsRow_124 : decode cX10_newsRow 124 = .ok (.getfield 57, 3) := by decide +kernel
theorem dX10_newsRow_127 : decode cX10_newsRow 127 = .ok (.getfield 91, 3) := by decide +kernel
theorem dX10_newsRow_130 : decode cX10_newsRow 130 = .ok (.iload_n 1, 1) := by decide +kernel
theorem dX10_newsRow_131 : decode cX10_newsRow 131 = .ok (.aload 9, 2) := by decide +kernel
theorem dX10_newsRow_133 : decode cX10_newsRow 133 = .ok (.iload 8, 2) := by decide +kernel
theorem dX10_newsRow_135 : decode cX10_newsRow 135 = .ok (.iaload, 1) := by decide +kernel
theorem dX10_newsRow_136 : decode cX10_newsRow 136 = .ok (.aload 9, 2) := by decide +kernel
theorem dX10_newsRow_138 : decode cX10_newsRow 138 = .ok (.iload 8, 2) := by decide +kernel
theorem dX10_newsRow_140 : decode cX10_newsRow 140 = .ok (.iconst 1, 1) := by decide +kernel
theorem dX10_newsRow_141 : decode cX10_newsRow 141 = .ok (.iadd, 1) := by decide +kernel
theorem dX10_newsRow_142 : decode cX10_newsRow 142 = .ok (.iaload, 1) := by decide +kernel
theorem dX10_newsRow_143 : decode cX10_newsRow 143 = .ok (.aload 9, 2) := by decide +kernel
theorem dX10_newsRow_145 : decode cX10_newsRow 145 = .ok (.iload 8, 2) := by decide +kernel
theorem dX10_newsRow_147 : decode cX10_newsRow 147 = .ok (.iconst 2, 1) := by decide +kernel
theorem dX10_newsRow_148 : decode cX10_newsRow 148 = .ok (.iadd, 1) := by decide +kernel
theorem dX10_newsRow_149 : decode cX10_newsRow 149 = .ok (.iaload, 1) := by decide +kernel
theorem dX10_newsRow_150 : decode cX10_newsRow 150 = .ok (.aload 9, 2) := by decide +kernel
theorem dX10_newsRow_152 : decode cX10_newsRow 152 = .ok (.iload 8, 2) := by decide +kernel
theorem dX10_newsRow_154 : decode cX10_newsRow 154 = .ok (.iconst 3, 1) := by decide +kernel
theorem dX10_newsRow_155 : decode cX10_newsRow 155 = .ok (.iadd, 1) := by decide +kernel
theorem dX10_newsRow_156 : decode cX10_newsRow 156 = .ok (.iaload, 1) := by decide +kernel
theorem dX10_newsRow_157 : decode cX10_newsRow 157 = .ok (.invokevirtual 191, 3) := by decide +kernel
theorem dX10_newsRow_160 : decode cX10_newsRow 160 = .ok (.ifCond .lt 6, 3) := by decide +kernel
theorem dX10_newsRow_163 : decode cX10_newsRow 163 = .ok (.iinc 6 1, 3) := by decide +kernel
theorem dX10_newsRow_166 : decode cX10_newsRow 166 = .ok (.iinc 7 1, 3) := by decide +kernel
theorem dX10_newsRow_169 : decode cX10_newsRow 169 = .ok (.goto (-94), 3) := by decide +kernel
theorem dX10_newsRow_172 : decode cX10_newsRow 172 = .ok (.iload 6, 2) := by decide +kernel
theorem dX10_newsRow_174 : decode cX10_newsRow 174 = .ok (.ireturn, 1) := by decide +kernel
theorem dX10_taken_0 : decode cX10_taken 0 = .ok (.iload_n 2, 1) := by decide +kernel
theorem dX10_taken_1 : decode cX10_taken 1 = .ok (.iconst 0, 1) := by decide +kernel
theorem dX10_taken_2 : decode cX10_taken 2 = .ok (.iconst 5, 1) := by decide +kernel
theorem dX10_taken_3 : decode cX10_taken 3 = .ok (.invokestatic 86, 3) := by decide +kernel
theorem dX10_taken_6 : decode cX10_taken 6 = .ok (.ifCond .eq 6, 3) := by decide +kernel
theorem dX10_taken_9 : decode cX10_taken 9 = .ok (.bipush (-2), 2) := by decide +kernel
theorem dX10_taken_11 : decode cX10_taken 11 = .ok (.ireturn, 1) := by decide +kernel
theorem dX10_taken_12 : decode cX10_taken 12 = .ok (.aload_n 0, 1) := by decide +kernel
theorem dX10_taken_13 : decode cX10_taken 13 = .ok (.iload_n 1, 1) := by decide +kernel
theorem dX10_taken_14 : decode cX10_taken 14 = .ok (.invokevirtual 128, 3) := by decide +kernel
theorem dX10_taken_17 : decode cX10_taken 17 = .ok (.ifCond .eq 6, 3) := by decide +kernel
theorem dX10_taken_20 : decode cX10_taken 20 = .ok (.bipush (-11), 2) := by decide +kernel
theorem dX10_taken_22 : decode cX10_taken 22 = .ok (.ireturn, 1) := by decide +kernel
theorem dX10_taken_23 : decode cX10_taken 23 = .ok (.aload_n 0, 1) := by decide +kernel
theorem dX10_taken_24 : decode cX10_taken 24 = .ok (.getfield 19, 3) := by decide +kernel
theorem dX10_taken_27 : decode cX10_taken 27 = .ok (.iload_n 1, 1) := by decide +kernel
theorem dX10_taken_28 : decode cX10_taken 28 = .ok (.iload_n 2, 1) := by decide +kernel
theorem dX10_taken_29 : decode cX10_taken 29 = .ok (.invokevirtual 294, 3) := by decide +kernel
theorem dX10_taken_32 : decode cX10_taken 32 = .ok (.ifCond .eq 15, 3) := by decide +kernel
theorem dX10_taken_35 : decode cX10_taken 35 = .ok (.aload_n 0, 1) := by decide +kernel
theorem dX10_taken_36 : decode cX10_taken 36 = .ok (.getfield 19, 3) := by decide +kernel
theorem dX10_taken_39 : decode cX10_taken 39 = .ok (.getfield 168, 3) := by decide +kernel
theorem dX10_taken_42 : decode cX10_taken 42 = .ok (.iload_n 1, 1) := by decide +kernel
theorem dX10_taken_43 : decode cX10_taken 43 = .ok (.iaload, 1) := by decide +kernel
theorem dX10_taken_44 : decode cX10_taken 44 = .ok (.goto 5, 3) := by decide +kernel
theorem dX10_taken_47 : decode cX10_taken 47 = .ok (.bipush (-13), 2) := by decide +kernel
theorem dX10_taken_49 : decode cX10_taken 49 = .ok (.ireturn, 1) := by decide +kernel
theorem dX10_isOutside_0 : decode cX10_isOutside 0 = .ok (.iload_n 0, 1) := by decide +kernel
theorem dX10_isOutside_1 : decode cX10_isOutside 1 = .ok (.iload_n 1, 1) := by decide +kernel
theorem dX10_isOutside_2 : decode cX10_isOutside 2 = .ok (.if_icmp .lt 8, 3) := by decide +kernel
theorem dX10_isOutside_5 : decode cX10_isOutside 5 = .ok (.iload_n 0, 1) := by decide +kernel
theorem dX10_isOutside_6 : decode cX10_isOutside 6 = .ok (.iload_n 2, 1) := by decide +kernel
theorem dX10_isOutside_7 : decode cX10_isOutside 7 = .ok (.if_icmp .le 7, 3) := by decide +kernel
theorem dX10_isOutside_10 : decode cX10_isOutside 10 = .ok (.iconst 1, 1) := by decide +kernel
theorem dX10_isOutside_11 : decode cX10_isOutside 11 = .ok (.goto 4, 3) := by decide +kernel
theorem dX10_isOutside_14 : decode cX10_isOutside 14 = .ok (.iconst 0, 1) := by decide +kernel
theorem dX10_isOutside_15 : decode cX10_isOutside 15 = .ok (.ireturn, 1) := by decide +kernel
theorem dX10_isNoTrack_0 : decode cX10_isNoTrack 0 = .ok (.iload_n 0, 1) := by decide +kernel
theorem dX10_isNoTrack_1 : decode cX10_isNoTrack 1 = .ok (.iconst 0, 1) := by decide +kernel
theorem dX10_isNoTrack_2 : decode cX10_isNoTrack 2 = .ok (.iconst 2, 1) := by decide +kernel
theorem dX10_isNoTrack_3 : decode cX10_isNoTrack 3 = .ok (.invokestatic 86, 3) := by decide +kernel
theorem dX10_isNoTrack_6 : decode cX10_isNoTrack 6 = .ok (.ireturn, 1) := by decide +kernel
theorem dX10_isNoSheet_0 : decode cX10_isNoSheet 0 = .ok (.iload_n 0, 1) := by decide +kernel
theorem dX10_isNoSheet_1 : decode cX10_isNoSheet 1 = .ok (.iconst 0, 1) := by decide +kernel
theorem dX10_isNoSheet_2 : decode cX10_isNoSheet 2 = .ok (.iconst 3, 1) := by decide +kernel
theorem dX10_isNoSheet_3 : decode cX10_isNoSheet 3 = .ok (.invokestatic 86, 3) := by decide +kernel
theorem dX10_isNoSheet_6 : decode cX10_isNoSheet 6 = .ok (.ireturn, 1) := by decide +kernel
theorem dX10_isNoZone_0 : decode cX10_isNoZone 0 = .ok (.iload_n 1, 1) := by decide +kernel
theorem dX10_isNoZone_1 : decode cX10_isNoZone 1 = .ok (.iconst 0, 1) := by decide +kernel
theorem dX10_isNoZone_2 : decode cX10_isNoZone 2 = .ok (.aload_n 0, 1) := by decide +kernel
theorem dX10_isNoZone_3 : decode cX10_isNoZone 3 = .ok (.getfield 10, 3) := by decide +kernel
theorem dX10_isNoZone_6 : decode cX10_isNoZone 6 = .ok (.getfield 95, 3) := by decide +kernel
theorem dX10_isNoZone_9 : decode cX10_isNoZone 9 = .ok (.iconst 1, 1) := by decide +kernel
theorem dX10_isNoZone_10 : decode cX10_isNoZone 10 = .ok (.isub, 1) := by decide +kernel
theorem dX10_isNoZone_11 : decode cX10_isNoZone 11 = .ok (.invokestatic 86, 3) := by decide +kernel
theorem dX10_isNoZone_14 : decode cX10_isNoZone 14 = .ok (.ireturn, 1) := by decide +kernel
theorem dX10_isNoShelter_0 : decode cX10_isNoShelter 0 = .ok (.iload_n 1, 1) := by decide +kernel
theorem dX10_isNoShelter_1 : decode cX10_isNoShelter 1 = .ok (.iconst 0, 1) := by decide +kernel
theorem dX10_isNoShelter_2 : decode cX10_isNoShelter 2 = .ok (.aload_n 0, 1) := by decide +kernel
theorem dX10_isNoShelter_3 : decode cX10_isNoShelter 3 = .ok (.getfield 10, 3) := by decide +kernel
theorem dX10_isNoShelter_6 : decode cX10_isNoShelter 6 = .ok (.getfield 108, 3) := by decide +kernel
theorem dX10_isNoShelter_9 : decode cX10_isNoShelter 9 = .ok (.iconst 1, 1) := by decide +kernel
theorem dX10_isNoShelter_10 : decode cX10_isNoShelter 10 = .ok (.isub, 1) := by decide +kernel
theorem dX10_isNoShelter_11 : decode cX10_isNoShelter 11 = .ok (.invokestatic 86, 3) := by decide +kernel
theorem dX10_isNoShelter_14 : decode cX10_isNoShelter 14 = .ok (.ireturn, 1) := by decide +kernel
theorem dX10_isNoRoad_0 : decode cX10_isNoRoad 0 = .ok (.iload_n 1, 1) := by decide +kernel
theorem dX10_isNoRoad_1 : decode cX10_isNoRoad 1 = .ok (.iconst 0, 1) := by decide +kernel
theorem dX10_isNoRoad_2 : decode cX10_isNoRoad 2 = .ok (.aload_n 0, 1) := by decide +kernel
theorem dX10_isNoRoad_3 : decode cX10_isNoRoad 3 = .ok (.getfield 19, 3) := by decide +kernel
theorem dX10_isNoRoad_6 : decode cX10_isNoRoad 6 = .ok (.getfield 121, 3) := by decide +kernel
theorem dX10_isNoRoad_9 : decode cX10_isNoRoad 9 = .ok (.iconst 1, 1) := by decide +kernel
theorem dX10_isNoRoad_10 : decode cX10_isNoRoad 10 = .ok (.isub, 1) := by decide +kernel
theorem dX10_isNoRoad_11 : decode cX10_isNoRoad 11 = .ok (.invokestatic 86, 3) := by decide +kernel
theorem dX10_isNoRoad_14 : decode cX10_isNoRoad 14 = .ok (.ireturn, 1) := by decide +kernel
theorem dX10_isNoGoal_0 : decode cX10_isNoGoal 0 = .ok (.aload_n 0, 1) := by decide +kernel
theorem dX10_isNoGoal_1 : decode cX10_isNoGoal 1 = .ok (.iload_n 1, 1) := by decide +kernel
theorem dX10_isNoGoal_2 : decode cX10_isNoGoal 2 = .ok (.invokevirtual 114, 3) := by decide +kernel
theorem dX10_isNoGoal_5 : decode cX10_isNoGoal 5 = .ok (.ifCond .eq 34, 3) := by decide +kernel
theorem dX10_isNoGoal_8 : decode cX10_isNoGoal 8 = .ok (.iload_n 1, 1) := by decide +kernel
theorem dX10_isNoGoal_9 : decode cX10_isNoGoal 9 = .ok (.bipush 10, 2) := by decide +kernel
theorem dX10_isNoGoal_11 : decode cX10_isNoGoal 11 = .ok (.bipush 10, 2) := by decide +kernel
theorem dX10_isNoGoal_13 : decode cX10_isNoGoal 13 = .ok (.aload_n 0, 1) := by decide +kernel
theorem dX10_isNoGoal_14 : decode cX10_isNoGoal 14 = .ok (.getfield 10, 3) := by decide +kernel
theorem dX10_isNoGoal_17 : decode cX10_isNoGoal 17 = .ok (.getfield 108, 3) := by decide +kernel
theorem dX10_isNoGoal_20 : decode cX10_isNoGoal 20 = .ok (.iadd, 1) := by decide +kernel
theorem dX10_isNoGoal_21 : decode cX10_isNoGoal 21 = .ok (.iconst 1, 1) := by decide +kernel
theorem dX10_isNoGoal_22 : decode cX10_isNoGoal 22 = .ok (.isub, 1) := by decide +kernel
theorem dX10_isNoGoal_23 : decode cX10_isNoGoal 23 = .ok (.invokestatic 86, 3) := by decide +kernel
theorem dX10_isNoGoal_26 : decode cX10_isNoGoal 26 = .ok (.ifCond .eq 13, 3) := by decide +kernel
theorem dX10_isNoGoal_29 : decode cX10_isNoGoal 29 = .ok (.iload_n 1, 1) := by decide +kernel
theorem dX10_isNoGoal_30 : decode cX10_isNoGoal 30 = .ok (.bipush 20, 2) := by decide +kernel
theorem dX10_isNoGoal_32 : decode cX10_isNoGoal 32 = .ok (.if_icmp .eq 7, 3) := by decide +kernel
theorem dX10_isNoGoal_35 : decode cX10_isNoGoal 35 = .ok (.iconst 1, 1) := by decide +kernel
theorem dX10_isNoGoal_36 : decode cX10_isNoGoal 36 = .ok (.goto 4, 3) := by decide +kernel
theorem dX10_isNoGoal_39 : decode cX10_isNoGoal 39 = .ok (.iconst 0, 1) := by decide +kernel
theorem dX10_isNoGoal_40 : decode cX10_isNoGoal 40 = .ok (.ireturn, 1) := by decide +kernel
theorem dX10_sum_0 : decode cX10_sum 0 = .ok (.iconst 0, 1) := by decide +kernel
theorem dX10_sum_1 : decode cX10_sum 1 = .ok (.istore_n 1, 1) := by decide +kernel
theorem dX10_sum_2 : decode cX10_sum 2 = .ok (.aload_n 0, 1) := by decide +kernel
theorem dX10_sum_3 : decode cX10_sum 3 = .ok (.astore_n 2, 1) := by decide +kernel
theorem dX10_sum_4 : decode cX10_sum 4 = .ok (.aload_n 2, 1) := by decide +kernel
theorem dX10_sum_5 : decode cX10_sum 5 = .ok (.arraylength, 1) := by decide +kernel
theorem dX10_sum_6 : decode cX10_sum 6 = .ok (.istore_n 3, 1) := by decide +kernel
theorem dX10_sum_7 : decode cX10_sum 7 = .ok (.iconst 0, 1) := by decide +kernel
theorem dX10_sum_8 : decode cX10_sum 8 = .ok (.istore 4, 2) := by decide +kernel
theorem dX10_sum_10 : decode cX10_sum 10 = .ok (.iload 4, 2) := by decide +kernel
theorem dX10_sum_12 : decode cX10_sum 12 = .ok (.iload_n 3, 1) := by decide +kernel
theorem dX10_sum_13 : decode cX10_sum 13 = .ok (.if_icmp .ge 20, 3) := by decide +kernel
theorem dX10_sum_16 : decode cX10_sum 16 = .ok (.aload_n 2, 1) := by decide +kernel
theorem dX10_sum_17 : decode cX10_sum 17 = .ok (.iload 4, 2) := by decide +kernel
theorem dX10_sum_19 : decode cX10_sum 19 = .ok (.iaload, 1) := by decide +kernel
theorem dX10_sum_20 : decode cX10_sum 20 = .ok (.istore 5, 2) := by decide +kernel
theorem dX10_sum_22 : decode cX10_sum 22 = .ok (.iload_n 1, 1) := by decide +kernel
theorem dX10_sum_23 : decode cX10_sum 23 = .ok (.iload 5, 2) := by decide +kernel
theorem dX10_sum_25 : decode cX10_sum 25 = .ok (.iadd, 1) := by decide +kernel
theorem dX10_sum_26 : decode cX10_sum 26 = .ok (.istore_n 1, 1) := by decide +kernel
theorem dX10_sum_27 : decode cX10_sum 27 = .ok (.iinc 4 1, 3) := by decide +kernel
theorem dX10_sum_30 : decode cX10_sum 30 = .ok (.goto (-20), 3) := by decide +kernel
theorem dX10_sum_33 : decode cX10_sum 33 = .ok (.iload_n 1, 1) := by decide +kernel
theorem dX10_sum_34 : decode cX10_sum 34 = .ok (.ireturn, 1) := by decide +kernel
