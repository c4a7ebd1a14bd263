theorem dX11_isIn_0 : decode cX11_isIn 0 = .ok (.lload_n 0, 1) := by decide +kernel
theorem dX11_isIn_1 : decode cX11_isIn 1 = .ok (.lload_n 2, 1) := by decide +kernel
theorem dX11_isIn_2 : decode cX11_isIn 2 = .ok (.lcmp, 1) := by decide +kernel
theorem dX11_isIn_3 : decode cX11_isIn 3 = .ok (.ifCond .lt 14, 3) := by decide +kernel
theorem dX11_isIn_6 : decode cX11_isIn 6 = .ok (.lload_n 0, 1) := by decide +kernel
theorem dX11_isIn_7 : decode cX11_isIn 7 = .ok (.lload 4, 2) := by decide +kernel
theorem dX11_isIn_9 : decode cX11_isIn 9 = .ok (.lcmp, 1) := by decide +kernel
theorem dX11_isIn_10 : decode cX11_isIn 10 = .ok (.ifCond .gt 7, 3) := by decide +kernel
theorem dX11_isIn_13 : decode cX11_isIn 13 = .ok (.iconst 1, 1) := by decide +kernel
theorem dX11_isIn_14 : decode cX11_isIn 14 = .ok (.goto 4, 3) := by decide +kernel
theorem dX11_isIn_17 : decode cX11_isIn 17 = .ok (.iconst 0, 1) := by decide +kernel
theorem dX11_isIn_18 : decode cX11_isIn 18 = .ok (.ireturn, 1) := by decide +kernel
theorem dX11_isZone_0 : decode cX11_isZone 0 = .ok (.iload_n 1, 1) := by decide +kernel
theorem dX11_isZone_1 : decode cX11_isZone 1 = .ok (.ifCond .lt 15, 3) := by decide +kernel
theorem dX11_isZone_4 : decode cX11_isZone 4 = .ok (.iload_n 1, 1) := by decide +kernel
theorem dX11_isZone_5 : decode cX11_isZone 5 = .ok (.aload_n 0, 1) := by decide +kernel
theorem dX11_isZone_6 : decode cX11_isZone 6 = .ok (.getfield 1, 3) := by decide +kernel
theorem dX11_isZone_9 : decode cX11_isZone 9 = .ok (.if_icmp .ge 7, 3) := by decide +kernel
theorem dX11_isZone_12 : decode cX11_isZone 12 = .ok (.iconst 1, 1) := by decide +kernel
theorem dX11_isZone_13 : decode cX11_isZone 13 = .ok (.goto 4, 3) := by decide +kernel
theorem dX11_isZone_16 : decode cX11_isZone 16 = .ok (.iconst 0, 1) := by decide +kernel
theorem dX11_isZone_17 : decode cX11_isZone 17 = .ok (.ireturn, 1) := by decide +kernel
theorem dX11_isShelter_0 : decode cX11_isShelter 0 = .ok (.iload_n 1, 1) := by decide +kernel
theorem dX11_isShelter_1 : decode cX11_isShelter 1 = .ok (.ifCond .lt 15, 3) := by decide +kernel
theorem dX11_isShelter_4 : decode cX11_isShelter 4 = .ok (.iload_n 1, 1) := by decide +kernel
theorem dX11_isShelter_5 : decode cX11_isShelter 5 = .ok (.aload_n 0, 1) := by decide +kernel
theorem dX11_isShelter_6 : decode cX11_isShelter 6 = .ok (.getfield 7, 3) := by decide +kernel
theorem dX11_isShelter_9 : decode cX11_isShelter 9 = .ok (.if_icmp .ge 7, 3) := by decide +kernel
theorem dX11_isShelter_12 : decode cX11_isShelter 12 = .ok (.iconst 1, 1) := by decide +kernel
theorem dX11_isShelter_13 : decode cX11_isShelter 13 = .ok (.goto 4, 3) := by decide +kernel
theorem dX11_isShelter_16 : decode cX11_isShelter 16 = .ok (.iconst 0, 1) := by decide +kernel
theorem dX11_isShelter_17 : decode cX11_isShelter 17 = .ok (.ireturn, 1) := by decide +kernel
theorem dX11_isRoad_0 : decode cX11_isRoad 0 = .ok (.iload_n 1, 1) := by decide +kernel
theorem dX11_isRoad_1 : decode cX11_isRoad 1 = .ok (.ifCond .lt 15, 3) := by decide +kernel
theorem dX11_isRoad_4 : decode cX11_isRoad 4 = .ok (.iload_n 1, 1) := by decide +kernel
theorem dX11_isRoad_5 : decode cX11_isRoad 5 = .ok (.aload_n 0, 1) := by decide +kernel
theorem dX11_isRoad_6 : decode cX11_isRoad 6 = .ok (.getfield 10, 3) := by decide +kernel
theorem dX11_isRoad_9 : decode cX11_isRoad 9 = .ok (.if_icmp .ge 7, 3) := by decide +kernel
theorem dX11_isRoad_12 : decode cX11_isRoad 12 = .ok (.iconst 1, 1) := by decide +kernel
theorem dX11_isRoad_13 : decode cX11_isRoad 13 = .ok (.goto 4, 3) := by decide +kernel
theorem dX11_isRoad_16 : decode cX11_isRoad 16 = .ok (.iconst 0, 1) := by decide +kernel
theorem dX11_isRoad_17 : decode cX11_isRoad 17 = .ok (.ireturn, 1) := by decide +kernel
theorem dX11_isBus_0 : decode cX11_isBus 0 = .ok (.iload_n 1, 1) := by decide +kernel
theorem dX11_isBus_1 : decode cX11_isBus 1 = .ok (.ifCond .lt 15, 3) := by decide +kernel
theorem dX11_isBus_4 : decode cX11_isBus 4 = .ok (.iload_n 1, 1) := by decide +kernel
theorem dX11_isBus_5 : decode cX11_isBus 5 = .ok (.aload_n 0, 1) := by decide +kernel
theorem dX11_isBus_6 : decode cX11_isBus 6 = .ok (.getfield 13, 3) := by decide +kernel
theorem dX11_isBus_9 : decode cX11_isBus 9 = .ok (.if_icmp .ge 7, 3) := by decide +kernel
theorem dX11_isBus_12 : decode cX11_isBus 12 = .ok (.iconst 1, 1) := by decide +kernel
theorem dX11_isBus_13 : decode cX11_isBus 13 = .ok (.goto 4, 3) := by decide +kernel
theorem dX11_isBus_16 : decode cX11_isBus 16 = .ok (.iconst 0, 1) := by decide +kernel
theorem dX11_isBus_17 : decode cX11_isBus 17 = .ok (.ireturn, 1) := by decide +kernel
theorem dX11_zone_0 : decode cX11_zone 0 = .ok (.iload_n 1, 1) := by decide +kernel
theorem dX11_zone_1 : decode cX11_zone 1 = .ok (.i2l, 1) := by decide +kernel
theorem dX11_zone_2 : decode cX11_zone 2 = .ok (.lconst 0, 1) := by decide +kernel
theorem dX11_zone_3 : decode cX11_zone 3 = .ok (.ldc2_w 16, 3) := by decide +kernel
theorem dX11_zone_6 : decode cX11_zone 6 = .ok (.invokestatic 18, 3) := by decide +kernel
theorem dX11_zone_9 : decode cX11_zone 9 = .ok (.ifCond .eq 27, 3) := by decide +kernel
theorem dX11_zone_12 : decode cX11_zone 12 = .ok (.iload_n 2, 1) := by decide +kernel
theorem dX11_zone_13 : decode cX11_zone 13 = .ok (.i2l, 1) := by decide +kernel
theorem dX11_zone_14 : decode cX11_zone 14 = .ok (.lconst 0, 1) := by decide +kernel
theorem dX11_zone_15 : decode cX11_zone 15 = .ok (.ldc2_w 22, 3) := by decide +kernel
theorem dX11_zone_18 : decode cX11_zone 18 = .ok (.invokestatic 18, 3) := by decide +kernel
theorem dX11_zone_21 : decode cX11_zone 21 = .ok (.ifCond .eq 15, 3) := by decide +kernel
theorem dX11_zone_24 : decode cX11_zone 24 = .ok (.iload_n 3, 1) := by decide +kernel
theorem dX11_zone_25 : decode cX11_zone 25 = .ok (.i2l, 1) := by decide +kernel
theorem dX11_zone_26 : decode cX11_zone 26 = .ok (.lconst 0, 1) := by decide +kernel
theorem dX11_zone_27 : decode cX11_zone 27 = .ok (.ldc2_w 24, 3) := by decide +kernel
theorem dX11_zone_30 : decode cX11_zone 30 = .ok (.invokestatic 18, 3) := by decide +kernel
theorem dX11_zone_33 : decode cX11_zone 33 = .ok (.ifCond .ne 6, 3) := by decide +kernel
theorem dX11_zone_36 : decode cX11_zone 36 = .ok (.bipush (-2), 2) := by decide +kernel
theorem dX11_zone_38 : decode cX11_zone 38 = .ok (.ireturn, 1) := by decide +kernel
theorem dX11_zone_39 : decode cX11_zone 39 = .ok (.aload_n 0, 1) := by decide +kernel
theorem dX11_zone_40 : decode cX11_zone 40 = .ok (.getfield 26, 3) := by decide +kernel
theorem dX11_zone_43 : decode cX11_zone 43 = .ok (.ifCond .le 6, 3) := by decide +kernel
theorem dX11_zone_46 : decode cX11_zone 46 = .ok (.bipush (-3), 2) := by decide +kernel
theorem dX11_zone_48 : decode cX11_zone 48 = .ok (.ireturn, 1) := by decide +kernel
theorem dX11_zone_49 : decode cX11_zone 49 = .ok (.aload_n 0, 1) := by decide +kernel
theorem dX11_zone_50 : decode cX11_zone 50 = .ok (.getfield 1, 3) := by decide +kernel
theorem dX11_zone_53 : decode cX11_zone 53 = .ok (.bipush 6, 2) := by decide +kernel
theorem dX11_zone_55 : decode cX11_zone 55 = .ok (.if_icmp .ne 6, 3) := by decide +kernel
theorem dX11_zone_58 : decode cX11_zone 58 = .ok (.bipush (-4), 2) := by decide +kernel
theorem dX11_zone_60 : decode cX11_zone 60 = .ok (.ireturn, 1) := by decide +kernel
theorem dX11_zone_61 : decode cX11_zone 61 = .ok (.aload_n 0, 1) := by decide +kernel
theorem dX11_zone_62 : decode cX11_zone 62 = .ok (.getfield 29, 3) := by decide +kernel
theorem dX11_zone_65 : decode cX11_zone 65 = .ok (.aload_n 0, 1) := by decide +kernel
theorem dX11_zone_66 : decode cX11_zone 66 = .ok (.getfield 1, 3) := by decide +kernel
theorem dX11_zone_69 : decode cX11_zone 69 = .ok (.iload_n 1, 1) := by decide +kernel
theorem dX11_zone_70 : decode cX11_zone 70 = .ok (.iastore, 1) := by decide +kernel
theorem dX11_zone_71 : decode cX11_zone 71 = .ok (.aload_n 0, 1) := by decide +kernel
theorem dX11_zone_72 : decode cX11_zone 72 = .ok (.getfield 33, 3) := by decide +kernel
theorem dX11_zone_75 : decode cX11_zone 75 = .ok (.aload_n 0, 1) := by decide +kernel
theorem dX11_zone_76 : decode cX11_zone 76 = .ok (.getfield 1, 3) := by decide +kernel
theorem dX11_zone_79 : decode cX11_zone 79 = .ok (.iload_n 2, 1) := by decide +kernel
theorem dX11_zone_80 : decode cX11_zone 80 = .ok (.iastore, 1) := by decide +kernel
theorem dX11_zone_81 : decode cX11_zone 81 = .ok (.aload_n 0, 1) := by decide +kernel
theorem dX11_zone_82 : decode cX11_zone 82 = .ok (.getfield 36, 3) := by decide +kernel
theorem dX11_zone_85 : decode cX11_zone 85 = .ok (.aload_n 0, 1) := by decide +kernel
theorem dX11_zone_86 : decode cX11_zone 86 = .ok (.getfield 1, 3) := by decide +kernel
theorem dX11_zone_89 : decode cX11_zone 89 = .ok (.iload_n 3, 1) := by decide +kernel
theorem dX11_zone_90 : decode cX11_zone 90 = .ok (.iastore, 1) := by decide +kernel
theorem dX11_zone_91 : decode cX11_zone 91 = .ok (.aload_n 0, 1) := by decide +kernel
theorem dX11_zone_92 : decode cX11_zone 92 = .ok (.dup, 1) := by decide +kernel
theorem dX11_zone_93 : decode cX11_zone 93 = .ok (.getfield 1, 3) := by decide +kernel
theorem dX11_zone_96 : decode cX11_zone 96 = .ok (.iconst 1, 1) := by decide +kernel
theorem dX11_zone_97 : decode cX11_zone 97 = .ok (.iadd, 1) := by decide +kernel
theorem dX11_zone_98 : decode cX11_zone 98 = .ok (.putfield 1, 3) := by decide +kernel
theorem dX11_zone_101 : decode cX11_zone 101 = .ok (.aload_n 0, 1) := by decide +kernel
theorem dX11_zone_102 : decode cX11_zone 102 = .ok (.getfield 1, 3) := by decide +kernel
theorem dX11_zone_105 : decode cX11_zone 105 = .ok (.iconst 1, 1) := by decide +kernel
theorem dX11_zone_106 : decode cX11_zone 106 = .ok (.isub, 1) := by decide +kernel
theorem dX11_zone_107 : decode cX11_zone 107 = .ok (.ireturn, 1) := by decide +kernel
theorem dX11_shelter_0 : decode cX11_shelter 0 = .ok (.iload_n 1, 1) := by decide +kernel
theorem dX11_shelter_1 : decode cX11_shelter 1 = .ok (.i2l, 1) := by decide +kernel
theorem dX11_shelter_2 : decode cX11_shelter 2 = .ok (.lconst 0, 1) := by decide +kernel
theorem dX11_shelter_3 : decode cX11_shelter 3 = .ok (.ldc2_w 22, 3) := by decide +kernel
theorem dX11_shelter_6 : decode cX11_shelter 6 = .ok (.invokestatic 18, 3) := by decide +kernel
theorem dX11_shelter_9 : decode cX11_shelter 9 = .ok (.ifCond .ne 6, 3) := by decide +kernel
theorem dX11_shelter_12 : decode cX11_shelter 12 = .ok (.bipush (-2), 2) := by decide +kernel
theorem dX11_shelter_14 : decode cX11_shelter 14 = .ok (.ireturn, 1) := by decide +kernel
theorem dX11_shelter_15 : decode cX11_shelter 15 = .ok (.aload_n 0, 1) := by decide +kernel
theorem dX11_shelter_16 : decode cX11_shelter 16 = .ok (.getfield 7, 3) := by decide +kernel
theorem dX11_shelter_19 : decode cX11_shelter 19 = .ok (.iconst 3, 1) := by decide +kernel
theorem dX11_shelter_20 : decode cX11_shelter 20 = .ok (.if_icmp .ne 6, 3) := by decide +kernel
theorem dX11_shelter_23 : decode cX11_shelter 23 = .ok (.bipush (-4), 2) := by decide +kernel
theorem dX11_shelter_25 : decode cX11_shelter 25 = .ok (.ireturn, 1) := by decide +kernel
theorem dX11_shelter_26 : decode cX11_shelter 26 = .ok (.aload_n 0, 1) := by decide +kernel
theorem dX11_shelter_27 : decode cX11_shelter 27 = .ok (.getfield 39, 3) := by decide +kernel
theorem dX11_shelter_30 : decode cX11_shelter 30 = .ok (.aload_n 0, 1) := by decide +kernel
theorem dX11_shelter_31 : decode cX11_shelter 31 = .ok (.getfield 7, 3) := by decide +kernel
theorem dX11_shelter_34 : decode cX11_shelter 34 = .ok (.iload_n 1, 1) := by decide +kernel
theorem dX11_shelter_35 : decode cX11_shelter 35 = .ok (.iastore, 1) := by decide +kernel
theorem dX11_shelter_36 : decode cX11_shelter 36 = .ok (.aload_n 0, 1) := by decide +kernel
theorem dX11_shelter_37 : decode cX11_shelter 37 = .ok (.dup, 1) := by decide +kernel
theorem dX11_shelter_38 : decode cX11_shelter 38 = .ok (.getfield 7, 3) := by decide +kernel
theorem dX11_shelter_41 : decode cX11_shelter 41 = .ok (.iconst 1, 1) := by decide +kernel
theorem dX11_shelter_42 : decode cX11_shelter 42 = .ok (.iadd, 1) := by decide +kernel
theorem dX11_shelter_43 : decode cX11_shelter 43 = .ok (.putfield 7, 3) := by decide +kernel
theorem dX11_shelter_46 : decode cX11_shelter 46 = .ok (.aload_n 0, 1) := by decide +kernel
theorem dX11_shelter_47 : decode cX11_shelter 47 = .ok (.getfield 7, 3) := by decide +kernel
theorem dX11_shelter_50 : decode cX11_shelter 50 = .ok (.iconst 1, 1) := by decide +kernel
theorem dX11_shelter_51 : decode cX11_shelter 51 = .ok (.isub, 1) := by decide +kernel
theorem dX11_shelter_52 : decode cX11_shelter 52 = .ok (.ireturn, 1) := by decide +kernel
theorem dX11_isGoal_0 : decode cX11_isGoal 0 = .ok (.iload_n 1, 1) := by decide +kernel
theorem dX11_isGoal_1 : decode cX11_isGoal 1 = .ok (.bipush 20, 2) := by decide +kernel
theorem dX11_isGoal_3 : decode cX11_isGoal 3 = .ok (.if_icmp .eq 22, 3) := by decide +kernel
theorem dX11_isGoal_6 : decode cX11_isGoal 6 = .ok (.aload_n 0, 1) := by decide +kernel
theorem dX11_isGoal_7 : decode cX11_isGoal 7 = .ok (.iload_n 1, 1) := by decide +kernel
theorem dX11_isGoal_8 : decode cX11_isGoal 8 = .ok (.invokevirtual 42, 3) := by decide +kernel
theorem dX11_isGoal_11 : decode cX11_isGoal 11 = .ok (.ifCond .ne 14, 3) := by decide +kernel
theorem dX11_isGoal_14 : decode cX11_isGoal 14 = .ok (.aload_n 0, 1) := by decide +kernel
theorem dX11_isGoal_15 : decode cX11_isGoal 15 = .ok (.iload_n 1, 1) := by decide +kernel
theorem dX11_isGoal_16 : decode cX11_isGoal 16 = .ok (.bipush 10, 2) := by decide +kernel
theorem dX11_isGoal_18 : decode cX11_isGoal 18 = .ok (.isub, 1) := by decide +kernel
theorem dX11_isGoal_19 : decode cX11_isGoal 19 = .ok (.invokevirtual 46, 3) := by decide +kernel
theorem dX11_isGoal_22 : decode cX11_isGoal 22 = .ok (.ifCond .eq 7, 3) := by decide +kernel
theorem dX11_isGoal_25 : decode cX11_isGoal 25 = .ok (.iconst 1, 1) := by decide +kernel
theorem dX11_isGoal_26 : decode cX11_isGoal 26 = .ok (.goto 4, 3) := by decide +kernel
theorem dX11_isGoal_29 : decode cX11_isGoal 29 = .ok (.iconst 0, 1) := by decide +kernel
theorem dX11_isGoal_30 : decode cX11_isGoal 30 = .ok (.ireturn, 1) := by decide +kernel
theorem dX11_road_0 : decode cX11_road 0 = .ok (.iload_n 1, 1) := by decide +kernel
theorem dX11_road_1 : decode cX11_road 1 = .ok (.i2l, 1) := by decide +kernel
theorem dX11_road_2 : decode cX11_road 2 = .ok (.lconst 0, 1) := by decide +kernel
theorem dX11_road_3 : decode cX11_road 3 = .ok (.ldc2_w 49, 3) := by decide +kernel
theorem dX11_road_6 : decode cX11_road 6 = .ok (.invokestatic 18, 3) := by decide +kernel
theorem dX11_road_9 : decode cX11_road 9 = .ok (.ifCond .eq 37, 3) := by decide +kernel
theorem dX11_road_12 : decode cX11_road 12 = .ok (.aload_n 0, 1) := by decide +kernel
theorem dX11_road_13 : decode cX11_road 13 = .ok (.iload_n 2, 1) := by decide +kernel
theorem dX11_road_14 : decode cX11_road 14 = .ok (.invokevirtual 42, 3) := by decide +kernel
theorem dX11_road_17 : decode cX11_road 17 = .ok (.ifCond .eq 29, 3) := by decide +kernel
theorem dX11_road_20 : decode cX11_road 20 = .ok (.aload_n 0, 1) := by decide +kernel
theorem dX11_road_21 : decode cX11_road 21 = .ok (.iload_n 3, 1) := by decide +kernel
theorem dX11_road_22 : decode cX11_road 22 = .ok (.invokevirtual 51, 3) := by decide +kernel
theorem dX11_road_25 : decode cX11_road 25 = .ok (.ifCond .eq 21, 3) := by decide +kernel
theorem dX11_road_28 : decode cX11_road 28 = .ok (.iload_n 2, 1) := by decide +kernel
theorem dX11_road_29 : decode cX11_road 29 = .ok (.iload_n 3, 1) := by decide +kernel
theorem dX11_road_30 : decode cX11_road 30 = .ok (.if_icmp .eq 16, 3) := by decide +kernel
theorem dX11_road_33 : decode cX11_road 33 = .ok (.iload 4, 2) := by decide +kernel
theorem dX11_road_35 : decode cX11_road 35 = .ok (.i2l, 1) := by decide +kernel
theorem dX11_road_36 : decode cX11_road 36 = .ok (.lconst 1, 1) := by decide +kernel
theorem dX11_road_37 : decode cX11_road 37 = .ok (.ldc2_w 54, 3) := by decide +kernel
theorem dX11_road_40 : decode cX11_road 40 = .ok (.invokestatic 18, 3) := by decide +kernel
theorem dX11_road_43 : decode cX11_road 43 = .ok (.ifCond .ne 6, 3) := by decide +kernel
theorem dX11_road_46 : decode cX11_road 46 = .ok (.bipush (-2), 2) := by decide +kernel
theorem dX11_road_48 : decode cX11_road 48 = .ok (.ireturn, 1) := by decide +kernel
theorem dX11_road_49 : decode cX11_road 49 = .ok (.aload_n 0, 1) := by decide +kernel
theorem dX11_road_50 : decode cX11_road 50 = .ok (.getfield 10, 3) := by decide +kernel
theorem dX11_road_53 : decode cX11_road 53 = .ok (.bipush 14, 2) := by decide +kernel
theorem dX11_road_55 : decode cX11_road 55 = .ok (.if_icmp .ne 6, 3) := by decide +kernel
theorem dX11_road_58 : decode cX11_road 58 = .ok (.bipush (-4), 2) := by decide +kernel
theorem dX11_road_60 : decode cX11_road 60 = .ok (.ireturn, 1) := by decide +kernel
theorem dX11_road_61 : decode cX11_road 61 = .ok (.aload_n 0, 1) := by decide +kernel
theorem dX11_road_62 : decode cX11_road 62 = .ok (.getfield 56, 3) := by decide +kernel
theorem dX11_road_65 : decode cX11_road 65 = .ok (.aload_n 0, 1) := by decide +kernel
theorem dX11_road_66 : decode cX11_road 66 = .ok (.getfield 10, 3) := by decide +kernel
theorem dX11_road_69 : decode cX11_road 69 = .ok (.iload_n 1, 1) := by decide +kernel
theorem dX11_road_70 : decode cX11_road 70 = .ok (.iastore, 1) := by decide +kernel
theorem dX11_road_71 : decode cX11_road 71 = .ok (.aload_n 0, 1) := by decide +kernel
theorem dX11_road_72 : decode cX11_road 72 = .ok (.getfield 59, 3) := by decide +kernel
theorem dX11_road_75 : decode cX11_road 75 = .ok (.aload_n 0, 1) := by decide +kernel
theorem dX11_road_76 : decode cX11_road 76 = .ok (.getfield 10, 3) := by decide +kernel
theorem dX11_road_79 : decode cX11_road 79 = .ok (.iload_n 2, 1) := by decide +kernel
theorem dX11_road_80 : decode cX11_road 80 = .ok (.iastore, 1) := by decide +kernel
theorem dX11_road_81 : decode cX11_road 81 = .ok (.aload_n 0, 1) := by decide +kernel
theorem dX11_road_82 : decode cX11_road 82 = .ok (.getfield 62, 3) := by decide +kernel
theorem dX11_road_85 : decode cX11_road 85 = .ok (.aload_n 0, 1) := by decide +kernel
theorem dX11_road_86 : decode cX11_road 86 = .ok (.getfield 10, 3) := by decide +kernel
theorem dX11_road_89 : decode cX11_road 89 = .ok (.iload_n 3, 1) := by decide +kernel
theorem dX11_road_90 : decode cX11_road 90 = .ok (.iastore, 1) := by decide +kernel
theorem dX11_road_91 : decode cX11_road 91 = .ok (.aload_n 0, 1) := by decide +kernel
theorem dX11_road_92 : decode cX11_road 92 = .ok (.getfield 65, 3) := by decide +kernel
theorem dX11_road_95 : decode cX11_road 95 = .ok (.aload_n 0, 1) := by decide +kernel
theorem dX11_road_96 : decode cX11_road 96 = .ok (.getfield 10, 3) := by decide +kernel
theorem dX11_road_99 : decode cX11_road 99 = .ok (.iload 4, 2) := by decide +kernel
theorem dX11_road_101 : decode cX11_road 101 = .ok (.iastore, 1) := by decide +kernel
theorem dX11_road_102 : decode cX11_road 102 = .ok (.aload_n 0, 1) := by decide +kernel
theorem dX11_road_103 : decode cX11_road 103 = .ok (.getfield 68, 3) := by decide +kernel
theorem dX11_road_106 : decode cX11_road 106 = .ok (.aload_n 0, 1) := by decide +kernel
theorem dX11_road_107 : decode cX11_road 107 = .ok (.getfield 10, 3) := by decide +kernel
theorem dX11_road_110 : decode cX11_road 110 = .ok (.iconst (-1), 1) := by decide +kernel
theorem dX11_road_111 : decode cX11_road 111 = .ok (.iastore, 1) := by decide +kernel
theorem dX11_road_112 : decode cX11_road 112 = .ok (.aload_n 0, 1) := by decide +kernel
theorem dX11_road_113 : decode cX11_road 113 = .ok (.dup, 1) := by decide +kernel
theorem dX11_road_114 : decode cX11_road 114 = .ok (.getfield 10, 3) := by decide +kernel
theorem dX11_road_117 : decode cX11_road 117 = .ok (.iconst 1, 1) := by decide +kernel
theorem dX11_road_118 : decode cX11_road 118 = .ok (.iadd, 1) := by decide +kernel
theorem dX11_road_119 : decode cX11_road 119 = .ok (.putfield 10, 3) := by decide +kernel
theorem dX11_road_122 : decode cX11_road 122 = .ok (.aload_n 0, 1) := by decide +kernel
theorem dX11_road_123 : decode cX11_road 123 = .ok (.getfield 10, 3) := by decide +kernel
theorem dX11_road_126 : decode cX11_road 126 = .ok (.iconst 1, 1) := by decide +kernel
theorem dX11_road_127 : decode cX11_road 127 = .ok (.isub, 1) := by decide +kernel
theorem dX11_road_128 : decode cX11_road 128 = .ok (.ireturn, 1) := by decide +kernel
theorem dX11_use_0 : decode cX11_use 0 = .ok (.aload_n 0, 1) := by decide +kernel
theorem dX11_use_1 : decode cX11_use 1 = .ok (.iload_n 1, 1) := by decide +kernel
theorem dX11_use_2 : decode cX11_use 2 = .ok (.invokevirtual 71, 3) := by decide +kernel
theorem dX11_use_5 : decode cX11_use 5 = .ok (.ifCond .ne 6, 3) := by decide +kernel
theorem dX11_use_8 : decode cX11_use 8 = .ok (.bipush (-2), 2) := by decide +kernel
theorem dX11_use_10 : decode cX11_use 10 = .ok (.ireturn, 1) := by decide +kernel
theorem dX11_use_11 : decode cX11_use 11 = .ok (.aload_n 0, 1) := by decide +kernel
theorem dX11_use_12 : decode cX11_use 12 = .ok (.getfield 74, 3) := by decide +kernel
theorem dX11_use_15 : decode cX11_use 15 = .ok (.aload_n 0, 1) := by decide +kernel
theorem dX11_use_16 : decode cX11_use 16 = .ok (.getfield 59, 3) := by decide +kernel
theorem dX11_use_19 : decode cX11_use 19 = .ok (.iload_n 1, 1) := by decide +kernel
theorem dX11_use_20 : decode cX11_use 20 = .ok (.iaload, 1) := by decide +kernel
theorem dX11_use_21 : decode cX11_use 21 = .ok (.iaload, 1) := by decide +kernel
theorem dX11_use_22 : decode cX11_use 22 = .ok (.istore_n 2, 1) := by decide +kernel
theorem dX11_use_23 : decode cX11_use 23 = .ok (.aload_n 0, 1) := by decide +kernel
theorem dX11_use_24 : decode cX11_use 24 = .ok (.getfield 74, 3) := by decide +kernel
theorem dX11_use_27 : decode cX11_use 27 = .ok (.aload_n 0, 1) := by decide +kernel
theorem dX11_use_28 : decode cX11_use 28 = .ok (.getfield 59, 3) := by decide +kernel
theorem dX11_use_31 : decode cX11_use 31 = .ok (.iload_n 1, 1) := by decide +kernel
theorem dX11_use_32 : decode cX11_use 32 = .ok (.iaload, 1) := by decide +kernel
theorem dX11_use_33 : decode cX11_use 33 = .ok (.iload_n 1, 1) := by decide +kernel
theorem dX11_use_34 : decode cX11_use 34 = .ok (.iastore, 1) := by decide +kernel
theorem dX11_use_35 : decode cX11_use 35 = .ok (.iload_n 2, 1) := by decide +kernel
theorem dX11_use_36 : decode cX11_use 36 = .ok (.ireturn, 1) := by decide +kernel
theorem dX11_turn_0 : decode cX11_turn 0 = .ok (.aload_n 0, 1) := by decide +kernel
theorem dX11_turn_1 : decode cX11_turn 1 = .ok (.iload_n 1, 1) := by decide +kernel
theorem dX11_turn_2 : decode cX11_turn 2 = .ok (.invokevirtual 71, 3) := by decide +kernel
theorem dX11_turn_5 : decode cX11_turn 5 = .ok (.ifCond .ne 6, 3) := by decide +kernel
theorem dX11_turn_8 : decode cX11_turn 8 = .ok (.bipush (-2), 2) := by decide +kernel
theorem dX11_turn_10 : decode cX11_turn 10 = .ok (.ireturn, 1) := by decide +kernel
theorem dX11_turn_11 : decode cX11_turn 11 = .ok (.aload_n 0, 1) := by decide +kernel
theorem dX11_turn_12 : decode cX11_turn 12 = .ok (.getfield 68, 3) := by decide +kernel
theorem dX11_turn_15 : decode cX11_turn 15 = .ok (.iload_n 1, 1) := by decide +kernel
theorem dX11_turn_16 : decode cX11_turn 16 = .ok (.iaload, 1) := by decide +kernel
theorem dX11_turn_17 : decode cX11_turn 17 = .ok (.iconst (-1), 1) := by decide +kernel
theorem dX11_turn_18 : decode cX11_turn 18 = .ok (.if_icmp .eq 6, 3) := by decide +kernel
theorem dX11_turn_21 : decode cX11_turn 21 = .ok (.bipush (-3), 2) := by decide +kernel
theorem dX11_turn_23 : decode cX11_turn 23 = .ok (.ireturn, 1) := by decide +kernel
theorem dX11_turn_24 : decode cX11_turn 24 = .ok (.aload_n 0, 1) := by decide +kernel
theorem dX11_turn_25 : decode cX11_turn 25 = .ok (.getfield 68, 3) := by decide +kernel
theorem dX11_turn_28 : decode cX11_turn 28 = .ok (.iload_n 1, 1) := by decide +kernel
theorem dX11_turn_29 : decode cX11_turn 29 = .ok (.aload_n 0, 1) := by decide +kernel
theorem dX11_turn_30 : decode cX11_turn 30 = .ok (.getfield 26, 3) := by decide +kernel
theorem dX11_turn_33 : decode cX11_turn 33 = .ok (.iastore, 1) := by decide +kernel
theorem dX11_turn_34 : decode cX11_turn 34 = .ok (.aload_n 0, 1) := by decide +kernel
theorem dX11_turn_35 : decode cX11_turn 35 = .ok (.getfield 26, 3) := by decide +kernel
theorem dX11_turn_38 : decode cX11_turn 38 = .ok (.ireturn, 1) := by decide +kernel
theorem dX11_bus_0 : decode cX11_bus 0 = .ok (.aload_n 0, 1) := by decide +kernel
theorem dX11_bus_1 : decode cX11_bus 1 = .ok (.iload_n 1, 1) := by decide +kernel
theorem dX11_bus_2 : decode cX11_bus 2 = .ok (.invokevirtual 42, 3) := by decide +kernel
theorem dX11_bus_5 : decode cX11_bus 5 = .ok (.ifCond .eq 36, 3) := by decide +kernel
theorem dX11_bus_8 : decode cX11_bus 8 = .ok (.aload_n 0, 1) := by decide +kernel
theorem dX11_bus_9 : decode cX11_bus 9 = .ok (.iload_n 2, 1) := by decide +kernel
theorem dX11_bus_10 : decode cX11_bus 10 = .ok (.invokevirtual 46, 3) := by decide +kernel
theorem dX11_bus_13 : decode cX11_bus 13 = .ok (.ifCond .eq 28, 3) := by decide +kernel
theorem dX11_bus_16 : decode cX11_bus 16 = .ok (.iload_n 3, 1) := by decide +kernel
theorem dX11_bus_17 : decode cX11_bus 17 = .ok (.i2l, 1) := by decide +kernel
theorem dX11_bus_18 : decode cX11_bus 18 = .ok (.lconst 1, 1) := by decide +kernel
theorem dX11_bus_19 : decode cX11_bus 19 = .ok (.ldc2_w 16, 3) := by decide +kernel
theorem dX11_bus_22 : decode cX11_bus 22 = .ok (.invokestatic 18, 3) := by decide +kernel
theorem dX11_bus_25 : decode cX11_bus 25 = .ok (.ifCond .eq 16, 3) := by decide +kernel
theorem dX11_bus_28 : decode cX11_bus 28 = .ok (.iload 4, 2) := by decide +kernel
theorem dX11_bus_30 : decode cX11_bus 30 = .ok (.i2l, 1) := by decide +kernel
theorem dX11_bus_31 : decode cX11_bus 31 = .ok (.lconst 1, 1) := by decide +kernel
theorem dX11_bus_32 : decode cX11_bus 32 = .ok (.ldc2_w 77, 3) := by decide +kernel
theorem dX11_bus_35 : decode cX11_bus 35 = .ok (.invokestatic 18, 3) := by decide +kernel
theorem dX11_bus_38 : decode cX11_bus 38 = .ok (.ifCond .ne 6, 3) := by decide +kernel
theorem dX11_bus_41 : decode cX11_bus 41 = .ok (.bipush (-2), 2) := by decide +kernel
theorem dX11_bus_43 : decode cX11_bus 43 = .ok (.ireturn, 1) := by decide +kernel
theorem dX11_bus_44 : decode cX11_bus 44 = .ok (.aload_n 0, 1) := by decide +kernel
theorem dX11_bus_45 : decode cX11_bus 45 = .ok (.getfield 13, 3) := by decide +kernel
theorem dX11_bus_48 : decode cX11_bus 48 = .ok (.iconst 4, 1) := by decide +kernel
theorem dX11_bus_49 : decode cX11_bus 49 = .ok (.if_icmp .ne 6, 3) := by decide +kernel
theorem dX11_bus_52 : decode cX11_bus 52 = .ok (.bipush (-4), 2) := by decide +kernel
theorem dX11_bus_54 : decode cX11_bus 54 = .ok (.ireturn, 1) := by decide +kernel
theorem dX11_bus_55 : decode cX11_bus 55 = .ok (.aload_n 0, 1) := by decide +kernel
theorem dX11_bus_56 : decode cX11_bus 56 = .ok (.getfield 79, 3) := by decide +kernel
theorem dX11_bus_59 : decode cX11_bus 59 = .ok (.aload_n 0, 1) := by decide +kernel
theorem dX11_bus_60 : decode cX11_bus 60 = .ok (.getfield 13, 3) := by decide +kernel
theorem dX11_bus_63 : decode cX11_bus 63 = .ok (.iload_n 1, 1) := by decide +kernel
theorem dX11_bus_64 : decode cX11_bus 64 = .ok (.iastore, 1) := by decide +kernel
theorem dX11_bus_65 : decode cX11_bus 65 = .ok (.aload_n 0, 1) := by decide +kernel
theorem dX11_bus_66 : decode cX11_bus 66 = .ok (.getfield 82, 3) := by decide +kernel
theorem dX11_bus_69 : decode cX11_bus 69 = .ok (.aload_n 0, 1) := by decide +kernel
theorem dX11_bus_70 : decode cX11_bus 70 = .ok (.getfield 13, 3) := by decide +kernel
theorem dX11_bus_73 : decode cX11_bus 73 = .ok (.iload_n 2, 1) := by decide +kernel
theorem dX11_bus_74 : decode cX11_bus 74 = .ok (.iastore, 1) := by decide +kernel
theorem dX11_bus_75 : decode cX11_bus 75 = .ok (.aload_n 0, 1) := by decide +kernel
theorem dX11_bus_76 : decode cX11_bus 76 = .ok (.getfield 85, 3) := by decide +kernel
theorem dX11_bus_79 : decode cX11_bus 79 = .ok (.aload_n 0, 1) := by decide +kernel
theorem dX11_bus_80 : decode cX11_bus 80 = .ok (.getfield 13, 3) := by decide +kernel
theorem dX11_bus_83 : decode cX11_bus 83 = .ok (.iload_n 3, 1) := by decide +kernel
theorem dX11_bus_84 : decode cX11_bus 84 = .ok (.iastore, 1) := by decide +kernel
theorem dX11_bus_85 : decode cX11_bus 85 = .ok (.aload_n 0, 1) := by decide +kernel
theorem dX11_bus_86 : decode cX11_bus 86 = .ok (.getfield 88, 3) := by decide +kernel
theorem dX11_bus_89 : decode cX11_bus 89 = .ok (.aload_n 0, 1) := by decide +kernel
theorem dX11_bus_90 : decode cX11_bus 90 = .ok (.getfield 13, 3) := by decide +kernel
theorem dX11_bus_93 : decode cX11_bus 93 = .ok (.iload 4, 2) := by decide +kernel
theorem dX11_bus_95 : decode cX11_bus 95 = .ok (.iastore, 1) := by decide +kernel
theorem dX11_bus_96 : decode cX11_bus 96 = .ok (.aload_n 0, 1) := by decide +kernel
theorem dX11_bus_97 : decode cX11_bus 97 = .ok (.dup, 1) := by decide +kernel
theorem dX11_bus_98 : decode cX11_bus 98 = .ok (.getfield 13, 3) := by decide +kernel
theorem dX11_bus_101 : decode cX11_bus 101 = .ok (.iconst 1, 1) := by decide +kernel
theorem dX11_bus_102 : decode cX11_bus 102 = .ok (.iadd, 1) := by decide +kernel
theorem dX11_bus_103 : decode cX11_bus 103 = .ok (.putfield 13, 3) := by decide +kernel
theorem dX11_bus_106 : decode cX11_bus 106 = .ok (.aload_n 0, 1) := by decide +kernel
theorem dX11_bus_107 : decode cX11_bus 107 = .ok (.getfield 13, 3) := by decide +kernel
theorem dX11_bus_110 : decode cX11_bus 110 = .ok (.iconst 1, 1) := by decide +kernel
theorem dX11_bus_111 : decode cX11_bus 111 = .ok (.isub, 1) := by decide +kernel
theorem dX11_bus_112 : decode cX11_bus 112 = .ok (.ireturn, 1) := by decide +kernel
theorem dX11_zoneTold_0 : decode cX11_zoneTold 0 = .ok (.aload_n 0, 1) := by decide +kernel
theorem dX11_zoneTold_1 : decode cX11_zoneTold 1 = .ok (.iload_n 1, 1) := by decide +kernel
theorem dX11_zoneTold_2 : decode cX11_zoneTold 2 = .ok (.invokevirtual 42, 3) := by decide +kernel
theorem dX11_zoneTold_5 : decode cX11_zoneTold 5 = .ok (.ifCond .eq 15, 3) := by decide +kernel
theorem dX11_zoneTold_8 : decode cX11_zoneTold 8 = .ok (.iload_n 2, 1) := by decide +kernel
theorem dX11_zoneTold_9 : decode cX11_zoneTold 9 = .ok (.i2l, 1) := by decide +kernel
theorem dX11_zoneTold_10 : decode cX11_zoneTold 10 = .ok (.lconst 0, 1) := by decide +kernel
theorem dX11_zoneTold_11 : decode cX11_zoneTold 11 = .ok (.ldc2_w 91, 3) := by decide +kernel
theorem dX11_zoneTold_14 : decode cX11_zoneTold 14 = .ok (.invokestatic 18, 3) := by decide +kernel
theorem dX11_zoneTold_17 : decode cX11_zoneTold 17 = .ok (.ifCond .ne 6, 3) := by decide +kernel
theorem dX11_zoneTold_20 : decode cX11_zoneTold 20 = .ok (.bipush (-2), 2) := by decide +kernel
theorem dX11_zoneTold_22 : decode cX11_zoneTold 22 = .ok (.ireturn, 1) := by decide +kernel
theorem dX11_zoneTold_23 : decode cX11_zoneTold 23 = .ok (.iload_n 2, 1) := by decide +kernel
theorem dX11_zoneTold_24 : decode cX11_zoneTold 24 = .ok (.tableswitch 82 0 5 #[40, 47, 54, 61, 68, 75], 40) := by decide +kernel
theorem dX11_zoneTold_64 : decode cX11_zoneTold 64 = .ok (.aload_n 0, 1) := by decide +kernel
theorem dX11_zoneTold_65 : decode cX11_zoneTold 65 = .ok (.getfield 29, 3) := by decide +kernel
theorem dX11_zoneTold_68 : decode cX11_zoneTold 68 = .ok (.iload_n 1, 1) := by decide +kernel
theorem dX11_zoneTold_69 : decode cX11_zoneTold 69 = .ok (.iaload, 1) := by decide +kernel
theorem dX11_zoneTold_70 : decode cX11_zoneTold 70 = .ok (.ireturn, 1) := by decide +kernel
theorem dX11_zoneTold_71 : decode cX11_zoneTold 71 = .ok (.aload_n 0, 1) := by decide +kernel
theorem dX11_zoneTold_72 : decode cX11_zoneTold 72 = .ok (.getfield 33, 3) := by decide +kernel
theorem dX11_zoneTold_75 : decode cX11_zoneTold 75 = .ok (.iload_n 1, 1) := by decide +kernel
theorem dX11_zoneTold_76 : decode cX11_zoneTold 76 = .ok (.iaload, 1) := by decide +kernel
theorem dX11_zoneTold_77 : decode cX11_zoneTold 77 = .ok (.ireturn, 1) := by decide +kernel
theorem dX11_zoneTold_78 : decode cX11_zoneTold 78 = .ok (.aload_n 0, 1) := by decide +kernel
theorem dX11_zoneTold_79 : decode cX11_zoneTold 79 = .ok (.getfield 93, 3) := by decide +kernel
theorem dX11_zoneTold_82 : decode cX11_zoneTold 82 = .ok (.iload_n 1, 1) := by decide +kernel
theorem dX11_zoneTold_83 : decode cX11_zoneTold 83 = .ok (.iaload, 1) := by decide +kernel
theorem dX11_zoneTold_84 : decode cX11_zoneTold 84 = .ok (.ireturn, 1) := by decide +kernel
theorem dX11_zoneTold_85 : decode cX11_zoneTold 85 = .ok (.aload_n 0, 1) := by decide +kernel
theorem dX11_zoneTold_86 : decode cX11_zoneTold 86 = .ok (.getfield 36, 3) := by decide +kernel
theorem dX11_zoneTold_89 : decode cX11_zoneTold 89 = .ok (.iload_n 1, 1) := by decide +kernel
theorem dX11_zoneTold_90 : decode cX11_zoneTold 90 = .ok (.iaload, 1) := by decide +kernel
theorem dX11_zoneTold_91 : decode cX11_zoneTold 91 = .ok (.ireturn, 1) := by decide +kernel
theorem dX11_zoneTold_92 : decode cX11_zoneTold 92 = .ok (.aload_n 0, 1) := by decide +kernel
theorem dX11_zoneTold_93 : decode cX11_zoneTold 93 = .ok (.getfield 96, 3) := by decide +kernel
theorem dX11_zoneTold_96 : decode cX11_zoneTold 96 = .ok (.iload_n 1, 1) := by decide +kernel
theorem dX11_zoneTold_97 : decode cX11_zoneTold 97 = .ok (.iaload, 1) := by decide +kernel
theorem dX11_zoneTold_98 : decode cX11_zoneTold 98 = .ok (.ireturn, 1) := by decide +kernel
theorem dX11_zoneTold_99 : decode cX11_zoneTold 99 = .ok (.aload_n 0, 1) := by decide +kernel
theorem dX11_zoneTold_100 : decode cX11_zoneTold 100 = .ok (.getfield 74, 3) := by decide +kernel
theorem dX11_zoneTold_103 : decode cX11_zoneTold 103 = .ok (.iload_n 1, 1) := by decide +kernel
theorem dX11_zoneTold_104 : decode cX11_zoneTold 104 = .ok (.iaload, 1) := by decide +kernel
theorem dX11_zoneTold_105 : decode cX11_zoneTold 105 = .ok (.ireturn, 1) := by decide +kernel
theorem dX11_zoneTold_106 : decode cX11_zoneTold 106 = .ok (.aload_n 0, 1) := by decide +kernel
theorem dX11_zoneTold_107 : decode cX11_zoneTold 107 = .ok (.iload_n 1, 1) := by decide +kernel
theorem dX11_zoneTold_108 : decode cX11_zoneTold 108 = .ok (.aload_n 0, 1) := by decide +kernel
theorem dX11_zoneTold_109 : decode cX11_zoneTold 109 = .ok (.getfield 99, 3) := by decide +kernel
theorem dX11_zoneTold_112 : decode cX11_zoneTold 112 = .ok (.aload_n 0, 1) := by decide +kernel
theorem dX11_zoneTold_113 : decode cX11_zoneTold 113 = .ok (.getfield 26, 3) := by decide +kernel
theorem dX11_zoneTold_116 : decode cX11_zoneTold 116 = .ok (.invokevirtual 102, 3) := by decide +kernel
theorem dX11_zoneTold_119 : decode cX11_zoneTold 119 = .ok (.ifCond .eq 7, 3) := by decide +kernel
theorem dX11_zoneTold_122 : decode cX11_zoneTold 122 = .ok (.iconst 1, 1) := by decide +kernel
theorem dX11_zoneTold_123 : decode cX11_zoneTold 123 = .ok (.goto 4, 3) := by decide +kernel
theorem dX11_zoneTold_126 : decode cX11_zoneTold 126 = .ok (.iconst 0, 1) := by decide +kernel
theorem dX11_zoneTold_127 : decode cX11_zoneTold 127 = .ok (.ireturn, 1) := by decide +kernel
theorem dX11_roomLeft_0 : decode cX11_roomLeft 0 = .ok (.aload_n 0, 1) := by decide +kernel
theorem dX11_roomLeft_1 : decode cX11_roomLeft 1 = .ok (.getfield 39, 3) := by decide +kernel
theorem dX11_roomLeft_4 : decode cX11_roomLeft 4 = .ok (.iload_n 1, 1) := by decide +kernel
theorem dX11_roomLeft_5 : decode cX11_roomLeft 5 = .ok (.iaload, 1) := by decide +kernel
theorem dX11_roomLeft_6 : decode cX11_roomLeft 6 = .ok (.aload_n 0, 1) := by decide +kernel
theorem dX11_roomLeft_7 : decode cX11_roomLeft 7 = .ok (.getfield 106, 3) := by decide +kernel
theorem dX11_roomLeft_10 : decode cX11_roomLeft 10 = .ok (.iload_n 1, 1) := by decide +kernel
theorem dX11_roomLeft_11 : decode cX11_roomLeft 11 = .ok (.iaload, 1) := by decide +kernel
theorem dX11_roomLeft_12 : decode cX11_roomLeft 12 = .ok (.isub, 1) := by decide +kernel
theorem dX11_roomLeft_13 : decode cX11_roomLeft 13 = .ok (.aload_n 0, 1) := by decide +kernel
theorem dX11_roomLeft_14 : decode cX11_roomLeft 14 = .ok (.getfield 109, 3) := by decide +kernel
theorem dX11_roomLeft_17 : decode cX11_roomLeft 17 = .ok (.iload_n 1, 1) := by decide +kernel
theorem dX11_roomLeft_18 : decode cX11_roomLeft 18 = .ok (.iaload, 1) := by decide +kernel
theorem dX11_roomLeft_19 : decode cX11_roomLeft 19 = .ok (.isub, 1) := by decide +kernel
theorem dX11_roomLeft_20 : decode cX11_roomLeft 20 = .ok (.ireturn, 1) := by decide +kernel
theorem dX11_shelterTold_0 : decode cX11_shelterTold 0 = .ok (.aload_n 0, 1) := by decide +kernel
theorem dX11_shelterTold_1 : decode cX11_shelterTold 1 = .ok (.iload_n 1, 1) := by decide +kernel
theorem dX11_shelterTold_2 : decode cX11_shelterTold 2 = .ok (.invokevirtual 46, 3) := by decide +kernel
theorem dX11_shelterTold_5 : decode cX11_shelterTold 5 = .ok (.ifCond .eq 13, 3) := by decide +kernel
theorem dX11_shelterTold_8 : decode cX11_shelterTold 8 = .ok (.iload_n 2, 1) := by decide +kernel
theorem dX11_shelterTold_9 : decode cX11_shelterTold 9 = .ok (.i2l, 1) := by decide +kernel
theorem dX11_shelterTold_10 : decode cX11_shelterTold 10 = .ok (.lconst 0, 1) := by decide +kernel
theorem dX11_shelterTold_11 : decode cX11_shelterTold 11 = .ok (.lconst 1, 1) := by decide +kernel
theorem dX11_shelterTold_12 : decode cX11_shelterTold 12 = .ok (.invokestatic 18, 3) := by decide +kernel
theorem dX11_shelterTold_15 : decode cX11_shelterTold 15 = .ok (.ifCond .ne 6, 3) := by decide +kernel
theorem dX11_shelterTold_18 : decode cX11_shelterTold 18 = .ok (.bipush (-2), 2) := by decide +kernel
theorem dX11_shelterTold_20 : decode cX11_shelterTold 20 = .ok (.ireturn, 1) := by decide +kernel
theorem dX11_shelterTold_21 : decode cX11_shelterTold 21 = .ok (.iload_n 2, 1) := by decide +kernel
theorem dX11_shelterTold_22 : decode cX11_shelterTold 22 = .ok (.ifCond .ne 11, 3) := by decide +kernel
theorem dX11_shelterTold_25 : decode cX11_shelterTold 25 = .ok (.aload_n 0, 1) := by decide +kernel
theorem dX11_shelterTold_26 : decode cX11_shelterTold 26 = .ok (.iload_n 1, 1) := by decide +kernel
theorem dX11_shelterTold_27 : decode cX11_shelterTold 27 = .ok (.invokevirtual 112, 3) := by decide +kernel
theorem dX11_shelterTold_30 : decode cX11_shelterTold 30 = .ok (.goto 9, 3) := by decide +kernel
theorem dX11_shelterTold_33 : decode cX11_shelterTold 33 = .ok (.aload_n 0, 1) := by decide +kernel
theorem dX11_shelterTold_34 : decode cX11_shelterTold 34 = .ok (.getfield 106, 3) := by decide +kernel
theorem dX11_shelterTold_37 : decode cX11_shelterTold 37 = .ok (.iload_n 1, 1) := by decide +kernel
theorem dX11_shelterTold_38 : decode cX11_shelterTold 38 = .ok (.iaload, 1) := by decide +kernel
theorem dX11_shelterTold_39 : decode cX11_shelterTold 39 = .ok (.ireturn, 1) := by decide +kernel
theorem dX11_roadTold_0 : decode cX11_roadTold 0 = .ok (.aload_n 0, 1) := by decide +kernel
theorem dX11_roadTold_1 : decode cX11_roadTold 1 = .ok (.iload_n 1, 1) := by decide +kernel
theorem dX11_roadTold_2 : decode cX11_roadTold 2 = .ok (.invokevirtual 71, 3) := by decide +kernel
theorem dX11_roadTold_5 : decode cX11_roadTold 5 = .ok (.ifCond .eq 15, 3) := by decide +kernel
theorem dX11_roadTold_8 : decode cX11_roadTold 8 = .ok (.iload_n 2, 1) := by decide +kernel
theorem dX11_roadTold_9 : decode cX11_roadTold 9 = .ok (.i2l, 1) := by decide +kernel
theorem dX11_roadTold_10 : decode cX11_roadTold 10 = .ok (.lconst 0, 1) := by decide +kernel
theorem dX11_roadTold_11 : decode cX11_roadTold 11 = .ok (.ldc2_w 49, 3) := by decide +kernel
theorem dX11_roadTold_14 : decode cX11_roadTold 14 = .ok (.invokestatic 18, 3) := by decide +kernel
theorem dX11_roadTold_17 : decode cX11_roadTold 17 = .ok (.ifCond .ne 6, 3) := by decide +kernel
theorem dX11_roadTold_20 : decode cX11_roadTold 20 = .ok (.bipush (-2), 2) := by decide +kernel
theorem dX11_roadTold_22 : decode cX11_roadTold 22 = .ok (.ireturn, 1) := by decide +kernel
theorem dX11_roadTold_23 : decode cX11_roadTold 23 = .ok (.iload_n 2, 1) := by decide +kernel
theorem dX11_roadTold_24 : decode cX11_roadTold 24 = .ok (.tableswitch 71 0 4 #[36, 43, 50, 57, 64], 36) := by decide +kernel
theorem dX11_roadTold_60 : decode cX11_roadTold 60 = .ok (.aload_n 0, 1) := by decide +kernel
theorem dX11_roadTold_61 : decode cX11_roadTold 61 = .ok (.getfield 56, 3) := by decide +kernel
theorem dX11_roadTold_64 : decode cX11_roadTold 64 = .ok (.iload_n 1, 1) := by decide +kernel
theorem dX11_roadTold_65 : decode cX11_roadTold 65 = .ok (.iaload, 1) := by decide +kernel
theorem dX11_roadTold_66 : decode cX11_roadTold 66 = .ok (.ireturn, 1) := by decide +kernel
theorem dX11_roadTold_67 : decode cX11_roadTold 67 = .ok (.aload_n 0, 1) := by decide +kernel
theorem dX11_roadTold_68 : decode cX11_roadTold 68 = .ok (.getfield 59, 3) := by decide +kernel
theorem dX11_roadTold_71 : decode cX11_roadTold 71 = .ok (.iload_n 1, 1) := by decide +kernel
theorem dX11_roadTold_72 : decode cX11_roadTold 72 = .ok (.iaload, 1) := by decide +kernel
theorem dX11_roadTold_73 : decode cX11_roadTold 73 = .ok (.ireturn, 1) := by decide +kernel
theorem dX11_roadTold_74 : decode cX11_roadTold 74 = .ok (.aload_n 0, 1) := by decide +kernel
theorem dX11_roadTold_75 : decode cX11_roadTold 75 = .ok (.getfield 62, 3) := by decide +kernel
theorem dX11_roadTold_78 : decode cX11_roadTold 78 = .ok (.iload_n 1, 1) := by decide +kernel
theorem dX11_roadTold_79 : decode cX11_roadTold 79 = .ok (.iaload, 1) := by decide +kernel
theorem dX11_roadTold_80 : decode cX11_roadTold 80 = .ok (.ireturn, 1) := by decide +kernel
theorem dX11_roadTold_81 : decode cX11_roadTold 81 = .ok (.aload_n 0, 1) := by decide +kernel
theorem dX11_roadTold_82 : decode cX11_roadTold 82 = .ok (.getfield 65, 3) := by decide +kernel
theorem dX11_roadTold_85 : decode cX11_roadTold 85 = .ok (.iload_n 1, 1) := by decide +kernel
theorem dX11_roadTold_86 : decode cX11_roadTold 86 = .ok (.iaload, 1) := by decide +kernel
theorem dX11_roadTold_87 : decode cX11_roadTold 87 = .ok (.ireturn, 1) := by decide +kernel
theorem dX11_roadTold_88 : decode cX11_roadTold 88 = .ok (.aload_n 0, 1) := by decide +kernel
theorem dX11_roadTold_89 : decode cX11_roadTold 89 = .ok (.getfield 68, 3) := by decide +kernel
theorem dX11_roadTold_92 : decode cX11_roadTold 92 = .ok (.iload_n 1, 1) := by decide +kernel
theorem dX11_roadTold_93 : decode cX11_roadTold 93 = .ok (.iaload, 1) := by decide +kernel
theorem dX11_roadTold_94 : decode cX11_roadTold 94 = .ok (.ireturn, 1) := by decide +kernel
theorem dX11_roadTold_95 : decode cX11_roadTold 95 = .ok (.aload_n 0, 1) := by decide +kernel
theorem dX11_roadTold_96 : decode cX11_roadTold 96 = .ok (.iload_n 1, 1) := by decide +kernel
theorem dX11_roadTold_97 : decode cX11_roadTold 97 = .ok (.aload_n 0, 1) := by decide +kernel
theorem dX11_roadTold_98 : decode cX11_roadTold 98 = .ok (.getfield 99, 3) := by decide +kernel
theorem dX11_roadTold_101 : decode cX11_roadTold 101 = .ok (.aload_n 0, 1) := by decide +kernel
theorem dX11_roadTold_102 : decode cX11_roadTold 102 = .ok (.getfield 26, 3) := by decide +kernel
theorem dX11_roadTold_105 : decode cX11_roadTold 105 = .ok (.invokevirtual 116, 3) := by decide +kernel
theorem dX11_roadTold_108 : decode cX11_roadTold 108 = .ok (.ireturn, 1) := by decide +kernel
theorem dX11_busTold_0 : decode cX11_busTold 0 = .ok (.aload_n 0, 1) := by decide +kernel
theorem dX11_busTold_1 : decode cX11_busTold 1 = .ok (.iload_n 1, 1) := by decide +kernel
theorem dX11_busTold_2 : decode cX11_busTold 2 = .ok (.invokevirtual 120, 3) := by decide +kernel
theorem dX11_busTold_5 : decode cX11_busTold 5 = .ok (.ifCond .eq 15, 3) := by decide +kernel
theorem dX11_busTold_8 : decode cX11_busTold 8 = .ok (.iload_n 2, 1) := by decide +kernel
theorem dX11_busTold_9 : decode cX11_busTold 9 = .ok (.i2l, 1) := by decide +kernel
theorem dX11_busTold_10 : decode cX11_busTold 10 = .ok (.lconst 0, 1) := by decide +kernel
theorem dX11_busTold_11 : decode cX11_busTold 11 = .ok (.ldc2_w 123, 3) := by decide +kernel
theorem dX11_busTold_14 : decode cX11_busTold 14 = .ok (.invokestatic 18, 3) := by decide +kernel
theorem dX11_busTold_17 : decode cX11_busTold 17 = .ok (.ifCond .ne 6, 3) := by decide +kernel
theorem dX11_busTold_20 : decode cX11_busTold 20 = .ok (.bipush (-2), 2) := by decide +kernel
theorem dX11_busTold_22 : decode cX11_busTold 22 = .ok (.ireturn, 1) := by decide +kernel
theorem dX11_busTold_23 : decode cX11_busTold 23 = .ok (.iload_n 2, 1) := by decide +kernel
theorem dX11_busTold_24 : decode cX11_busTold 24 = .ok (.ifCond .ne 21, 3) := by decide +kernel
theorem dX11_busTold_27 : decode cX11_busTold 27 = .ok (.aload_n 0, 1) := by decide +kernel
theorem dX11_busTold_28 : decode cX11_busTold 28 = .ok (.getfield 125, 3) := by decide +kernel
theorem dX11_busTold_31 : decode cX11_busTold 31 = .ok (.iload_n 1, 1) := by decide +kernel
theorem dX11_busTold_32 : decode cX11_busTold 32 = .ok (.iaload, 1) := by decide +kernel
theorem dX11_busTold_33 : decode cX11_busTold 33 = .ok (.iconst (-1), 1) := by decide +kernel
theorem dX11_busTold_34 : decode cX11_busTold 34 = .ok (.if_icmp .ne 7, 3) := by decide +kernel
theorem dX11_busTold_37 : decode cX11_busTold 37 = .ok (.iconst 1, 1) := by decide +kernel
theorem dX11_busTold_38 : decode cX11_busTold 38 = .ok (.goto 27, 3) := by decide +kernel
theorem dX11_busTold_41 : decode cX11_busTold 41 = .ok (.iconst 0, 1) := by decide +kernel
theorem dX11_busTold_42 : decode cX11_busTold 42 = .ok (.goto 23, 3) := by decide +kernel
theorem dX11_busTold_45 : decode cX11_busTold 45 = .ok (.iload_n 2, 1) := by decide +kernel
theorem dX11_busTold_46 : decode cX11_busTold 46 = .ok (.iconst 1, 1) := by decide +kernel
theorem dX11_busTold_47 : decode cX11_busTold 47 = .ok (.if_icmp .ne 12, 3) := by decide +kernel
theorem dX11_busTold_50 : decode cX11_busTold 50 = .ok (.aload_n 0, 1) := by decide +kernel
theorem dX11_busTold_51 : decode cX11_busTold 51 = .ok (.getfield 128, 3) := by decide +kernel
theorem dX11_busTold_54 : decode cX11_busTold 54 = .ok (.iload_n 1, 1) := by decide +kernel
theorem dX11_busTold_55 : decode cX11_busTold 55 = .ok (.iaload, 1) := by decide +kernel
theorem dX11_busTold_56 : decode cX11_busTold 56 = .ok (.goto 9, 3) := by decide +kernel
theorem dX11_busTold_59 : decode cX11_busTold 59 = .ok (.aload_n 0, 1) := by decide +kernel
theorem dX11_busTold_60 : decode cX11_busTold 60 = .ok (.getfield 125, 3) := by decide +kernel
theorem dX11_busTold_63 : decode cX11_busTold 63 = .ok (.iload_n 1, 1) := by decide +kernel
theorem dX11_busTold_64 : decode cX11_busTold 64 = .ok (.iaload, 1) := by decide +kernel
theorem dX11_busTold_65 : decode cX11_busTold 65 = .ok (.ireturn, 1) := by decide +kernel
theorem dX11_isWet_0 : decode cX11_isWet 0 = .ok (.aload_n 0, 1) := by decide +kernel
theorem dX11_isWet_1 : decode cX11_isWet 1 = .ok (.getfield 131, 3) := by decide +kernel
theorem dX11_isWet_4 : decode cX11_isWet 4 = .ok (.bipush 61, 2) := by decide +kernel
theorem dX11_isWet_6 : decode cX11_isWet 6 = .ok (.iload_n 2, 1) := by decide +kernel
theorem dX11_isWet_7 : decode cX11_isWet 7 = .ok (.imul, 1) := by decide +kernel
theorem dX11_isWet_8 : decode cX11_isWet 8 = .ok (.iload_n 3, 1) := by decide +kernel
theorem dX11_isWet_9 : decode cX11_isWet 9 = .ok (.iadd, 1) := by decide +kernel
theorem dX11_isWet_10 : decode cX11_isWet 10 = .ok (.iaload, 1) := by decide +kernel
theorem dX11_isWet_11 : decode cX11_isWet 11 = .ok (.aload_n 0, 1) := by decide +kernel
theorem dX11_isWet_12 : decode cX11_isWet 12 = .ok (.getfield 29, 3) := by decide +kernel
theorem dX11_isWet_15 : decode cX11_isWet 15 = .ok (.iload_n 1, 1) := by decide +kernel
theorem dX11_isWet_16 : decode cX11_isWet 16 = .ok (.iaload, 1) := by decide +kernel
theorem dX11_isWet_17 : decode cX11_isWet 17 = .ok (.if_icmp .le 7, 3) := by decide +kernel
theorem dX11_isWet_20 : decode cX11_isWet 20 = .ok (.iconst 1, 1) := by decide +kernel
theorem dX11_isWet_21 : decode cX11_isWet 21 = .ok (.goto 4, 3) := by decide +kernel
theorem dX11_isWet_24 : decode cX11_isWet 24 = .ok (.iconst 0, 1) := by decide +kernel
theorem dX11_isWet_25 : decode cX11_isWet 25 = .ok (.ireturn, 1) := by decide +kernel
theorem dX11_end_0 : decode cX11_end 0 = .ok (.iload_n 1, 1) := by decide +kernel
theorem dX11_end_1 : decode cX11_end 1 = .ok (.i2l, 1) := by decide +kernel
theorem dX11_end_2 : decode cX11_end 2 = .ok (.lconst 1, 1) := by decide +kernel
theorem dX11_end_3 : decode cX11_end 3 = .ok (.ldc2_w 134, 3) := by decide +kernel
theorem dX11_end_6 : decode cX11_end 6 = .ok (.invokestatic 18, 3) := by decide +kernel
theorem dX11_end_9 : decode cX11_end 9 = .ok (.ifCond .eq 11, 3) := by decide +kernel
theorem dX11_end_12 : decode cX11_end 12 = .ok (.iload_n 1, 1) := by decide +kernel
theorem dX11_end_13 : decode cX11_end 13 = .ok (.aload_n 0, 1) := by decide +kernel
theorem dX11_end_14 : decode cX11_end 14 = .ok (.getfield 26, 3) := by decide +kernel
theorem dX11_end_17 : decode cX11_end 17 = .ok (.if_icmp .ge 6, 3) := by decide +kernel
theorem dX11_end_20 : decode cX11_end 20 = .ok (.bipush (-2), 2) := by decide +kernel
theorem dX11_end_22 : decode cX11_end 22 = .ok (.ireturn, 1) := by decide +kernel
theorem dX11_end_23 : decode cX11_end 23 = .ok (.aload_n 0, 1) := by decide +kernel
theorem dX11_end_24 : decode cX11_end 24 = .ok (.getfield 136, 3) := by decide +kernel
theorem dX11_end_27 : decode cX11_end 27 = .ok (.istore_n 2, 1) := by decide +kernel
theorem dX11_end_28 : decode cX11_end 28 = .ok (.aload_n 0, 1) := by decide +kernel
theorem dX11_end_29 : decode cX11_end 29 = .ok (.iload_n 1, 1) := by decide +kernel
theorem dX11_end_30 : decode cX11_end 30 = .ok (.putfield 136, 3) := by decide +kernel
theorem dX11_end_33 : decode cX11_end 33 = .ok (.iload_n 2, 1) := by decide +kernel
theorem dX11_end_34 : decode cX11_end 34 = .ok (.ireturn, 1) := by decide +kernel
theorem dX11_isTrack_0 : decode cX11_isTrack 0 = .ok (.iload_n 0, 1) := by decide +kernel
theorem dX11_isTrack_1 : decode cX11_isTrack 1 = .ok (.i2l, 1) := by decide +kernel
theorem dX11_isTrack_2 : decode cX11_isTrack 2 = .ok (.lconst 0, 1) := by decide +kernel
theorem dX11_isTrack_3 : decode cX11_isTrack 3 = .ok (.ldc2_w 123, 3) := by decide +kernel
theorem dX11_isTrack_6 : decode cX11_isTrack 6 = .ok (.invokestatic 18, 3) := by decide +kernel
theorem dX11_isTrack_9 : decode cX11_isTrack 9 = .ok (.ireturn, 1) := by decide +kernel
theorem dX11_likely_0 : decode cX11_likely 0 = .ok (.iload_n 1, 1) := by decide +kernel
theorem dX11_likely_1 : decode cX11_likely 1 = .ok (.invokestatic 139, 3) := by decide +kernel
theorem dX11_likely_4 : decode cX11_likely 4 = .ok (.ifCond .eq 13, 3) := by decide +kernel
theorem dX11_likely_7 : decode cX11_likely 7 = .ok (.iload_n 2, 1) := by decide +kernel
theorem dX11_likely_8 : decode cX11_likely 8 = .ok (.i2l, 1) := by decide +kernel
theorem dX11_likely_9 : decode cX11_likely 9 = .ok (.lconst 0, 1) := by decide +kernel
theorem dX11_likely_10 : decode cX11_likely 10 = .ok (.lconst 1, 1) := by decide +kernel
theorem dX11_likely_11 : decode cX11_likely 11 = .ok (.invokestatic 18, 3) := by decide +kernel
theorem dX11_likely_14 : decode cX11_likely 14 = .ok (.ifCond .ne 6, 3) := by decide +kernel
theorem dX11_likely_17 : decode cX11_likely 17 = .ok (.bipush (-2), 2) := by decide +kernel
theorem dX11_likely_19 : decode cX11_likely 19 = .ok (.ireturn, 1) := by decide +kernel
theorem dX11_likely_20 : decode cX11_likely 20 = .ok (.aload_n 0, 1) := by decide +kernel
theorem dX11_likely_21 : decode cX11_likely 21 = .ok (.getfield 142, 3) := by decide +kernel
theorem dX11_likely_24 : decode cX11_likely 24 = .ok (.iload_n 1, 1) := by decide +kernel
theorem dX11_likely_25 : decode cX11_likely 25 = .ok (.iaload, 1) := by decide +kernel
theorem dX11_likely_26 : decode cX11_likely 26 = .ok (.istore_n 3, 1) := by decide +kernel
theorem dX11_likely_27 : decode cX11_likely 27 = .ok (.aload_n 0, 1) := by decide +kernel
theorem dX11_likely_28 : decode cX11_likely 28 = .ok (.getfield 142, 3) := by decide +kernel
theorem dX11_likely_31 : decode cX11_likely 31 = .ok (.iload_n 1, 1) := by decide +kernel
theorem dX11_likely_32 : decode cX11_likely 32 = .ok (.iload_n 2, 1) := by decide +kernel
theorem dX11_likely_33 : decode cX11_likely 33 = .ok (.iastore, 1) := by decide +kernel
theorem dX11_likely_34 : decode cX11_likely 34 = .ok (.iload_n 3, 1) := by decide +kernel
theorem dX11_likely_35 : decode cX11_likely 35 = .ok (.ireturn, 1) := by decide +kernel
theorem dX11_truth_0 : decode cX11_truth 0 = .ok (.iload_n 1, 1) := by decide +kernel
theorem dX11_truth_1 : decode cX11_truth 1 = .ok (.invokestatic 139, 3) := by decide +kernel
theorem dX11_truth_4 : decode cX11_truth 4 = .ok (.ifCond .ne 6, 3) := by decide +kernel
theorem dX11_truth_7 : decode cX11_truth 7 = .ok (.bipush (-2), 2) := by decide +kernel
theorem dX11_truth_9 : decode cX11_truth 9 = .ok (.ireturn, 1) := by decide +kernel
theorem dX11_truth_10 : decode cX11_truth 10 = .ok (.aload_n 0, 1) := by decide +kernel
theorem dX11_truth_11 : decode cX11_truth 11 = .ok (.getfield 99, 3) := by decide +kernel
theorem dX11_truth_14 : decode cX11_truth 14 = .ok (.istore_n 2, 1) := by decide +kernel
theorem dX11_truth_15 : decode cX11_truth 15 = .ok (.aload_n 0, 1) := by decide +kernel
theorem dX11_truth_16 : decode cX11_truth 16 = .ok (.iload_n 1, 1) := by decide +kernel
theorem dX11_truth_17 : decode cX11_truth 17 = .ok (.putfield 99, 3) := by decide +kernel
theorem dX11_truth_20 : decode cX11_truth 20 = .ok (.iload_n 2, 1) := by decide +kernel
theorem dX11_truth_21 : decode cX11_truth 21 = .ok (.ireturn, 1) := by decide +kernel
theorem dX11_news_0 : decode cX11_news 0 = .ok (.iload_n 1, 1) := by decide +kernel
theorem dX11_news_1 : decode cX11_news 1 = .ok (.invokestatic 139, 3) := by decide +kernel
theorem dX11_news_4 : decode cX11_news 4 = .ok (.ifCond .eq 60, 3) := by decide +kernel
theorem dX11_news_7 : decode cX11_news 7 = .ok (.iload_n 2, 1) := by decide +kernel
theorem dX11_news_8 : decode cX11_news 8 = .ok (.i2l, 1) := by decide +kernel
theorem dX11_news_9 : decode cX11_news 9 = .ok (.aload_n 0, 1) := by decide +kernel
theorem dX11_news_10 : decode cX11_news 10 = .ok (.getfield 26, 3) := by decide +kernel
theorem dX11_news_13 : decode cX11_news 13 = .ok (.i2l, 1) := by decide +kernel
theorem dX11_news_14 : decode cX11_news 14 = .ok (.ldc2_w 134, 3) := by decide +kernel
theorem dX11_news_17 : decode cX11_news 17 = .ok (.invokestatic 18, 3) := by decide +kernel
theorem dX11_news_20 : decode cX11_news 20 = .ok (.ifCond .eq 44, 3) := by decide +kernel
theorem dX11_news_23 : decode cX11_news 23 = .ok (.iload_n 3, 1) := by decide +kernel
theorem dX11_news_24 : decode cX11_news 24 = .ok (.i2l, 1) := by decide +kernel
theorem dX11_news_25 : decode cX11_news 25 = .ok (.iload_n 2, 1) := by decide +kernel
theorem dX11_news_26 : decode cX11_news 26 = .ok (.i2l, 1) := by decide +kernel
theorem dX11_news_27 : decode cX11_news 27 = .ok (.lconst 1, 1) := by decide +kernel
theorem dX11_news_28 : decode cX11_news 28 = .ok (.ladd, 1) := by decide +kernel
theorem dX11_news_29 : decode cX11_news 29 = .ok (.ldc2_w 145, 3) := by decide +kernel
theorem dX11_news_32 : decode cX11_news 32 = .ok (.invokestatic 18, 3) := by decide +kernel
theorem dX11_news_35 : decode cX11_news 35 = .ok (.ifCond .eq 29, 3) := by decide +kernel
theorem dX11_news_38 : decode cX11_news 38 = .ok (.iload 4, 2) := by decide +kernel
theorem dX11_news_40 : decode cX11_news 40 = .ok (.i2l, 1) := by decide +kernel
theorem dX11_news_41 : decode cX11_news 41 = .ok (.lconst 0, 1) := by decide +kernel
theorem dX11_news_42 : decode cX11_news 42 = .ok (.ldc2_w 16, 3) := by decide +kernel
theorem dX11_news_45 : decode cX11_news 45 = .ok (.invokestatic 18, 3) := by decide +kernel
theorem dX11_news_48 : decode cX11_news 48 = .ok (.ifCond .eq 16, 3) := by decide +kernel
theorem dX11_news_51 : decode cX11_news 51 = .ok (.iload 5, 2) := by decide +kernel
theorem dX11_news_53 : decode cX11_news 53 = .ok (.i2l, 1) := by decide +kernel
theorem dX11_news_54 : decode cX11_news 54 = .ok (.lconst 0, 1) := by decide +kernel
theorem dX11_news_55 : decode cX11_news 55 = .ok (.ldc2_w 16, 3) := by decide +kernel
theorem dX11_news_58 : decode cX11_news 58 = .ok (.invokestatic 18, 3) := by decide +kernel
theorem dX11_news_61 : decode cX11_news 61 = .ok (.ifCond .ne 6, 3) := by decide +kernel
theorem dX11_news_64 : decode cX11_news 64 = .ok (.bipush (-2), 2) := by decide +kernel
theorem dX11_news_66 : decode cX11_news 66 = .ok (.ireturn, 1) := by decide +kernel
theorem dX11_news_67 : decode cX11_news 67 = .ok (.aload_n 0, 1) := by decide +kernel
theorem dX11_news_68 : decode cX11_news 68 = .ok (.getfield 147, 3) := by decide +kernel
theorem dX11_news_71 : decode cX11_news 71 = .ok (.bipush 40, 2) := by decide +kernel
theorem dX11_news_73 : decode cX11_news 73 = .ok (.if_icmp .ne 6, 3) := by decide +kernel
theorem dX11_news_76 : decode cX11_news 76 = .ok (.bipush (-4), 2) := by decide +kernel
theorem dX11_news_78 : decode cX11_news 78 = .ok (.ireturn, 1) := by decide +kernel
theorem dX11_news_79 : decode cX11_news 79 = .ok (.aload_n 0, 1) := by decide +kernel
theorem dX11_news_80 : decode cX11_news 80 = .ok (.getfield 150, 3) := by decide +kernel
theorem dX11_news_83 : decode cX11_news 83 = .ok (.aload_n 0, 1) := by decide +kernel
theorem dX11_news_84 : decode cX11_news 84 = .ok (.getfield 147, 3) := by decide +kernel
theorem dX11_news_87 : decode cX11_news 87 = .ok (.iload_n 1, 1) := by decide +kernel
theorem dX11_news_88 : decode cX11_news 88 = .ok (.iastore, 1) := by decide +kernel
theorem dX11_news_89 : decode cX11_news 89 = .ok (.aload_n 0, 1) := by decide +kernel
theorem dX11_news_90 : decode cX11_news 90 = .ok (.getfield 153, 3) := by decide +kernel
theorem dX11_news_93 : decode cX11_news 93 = .ok (.aload_n 0, 1) := by decide +kernel
theorem dX11_news_94 : decode cX11_news 94 = .ok (.getfield 147, 3) := by decide +kernel
theorem dX11_news_97 : decode cX11_news 97 = .ok (.iload_n 2, 1) := by decide +kernel
theorem dX11_news_98 : decode cX11_news 98 = .ok (.iastore, 1) := by decide +kernel
theorem dX11_news_99 : decode cX11_news 99 = .ok (.aload_n 0, 1) := by decide +kernel
theorem dX11_news_100 : decode cX11_news 100 = .ok (.getfield 156, 3) := by decide +kernel
theorem dX11_news_103 : decode cX11_news 103 = .ok (.aload_n 0, 1) := by decide +kernel
theorem dX11_news_104 : decode cX11_news 104 = .ok (.getfield 147, 3) := by decide +kernel
theorem dX11_news_107 : decode cX11_news 107 = .ok (.iload_n 3, 1) := by decide +kernel
theorem dX11_news_108 : decode cX11_news 108 = .ok (.iastore, 1) := by decide +kernel
theorem dX11_news_109 : decode cX11_news 109 = .ok (.aload_n 0, 1) := by decide +kernel
theorem dX11_news_110 : decode cX11_news 110 = .ok (.getfield 159, 3) := by decide +kernel
theorem dX11_news_113 : decode cX11_news 113 = .ok (.aload_n 0, 1) := by decide +kernel
theorem dX11_news_114 : decode cX11_news 114 = .ok (.getfield 147, 3) := by decide +kernel
theorem dX11_news_117 : decode cX11_news 117 = .ok (.iload 4, 2) := by decide +kernel
theorem dX11_news_119 : decode cX11_news 119 = .ok (.iastore, 1) := by decide +kernel
theorem dX11_news_120 : decode cX11_news 120 = .ok (.aload_n 0, 1) := by decide +kernel
theorem dX11_news_121 : decode cX11_news 121 = .ok (.getfield 162, 3) := by decide +kernel
theorem dX11_news_124 : decode cX11_news 124 = .ok (.aload_n 0, 1) := by decide +kernel
theorem dX11_news_125 : decode cX11_news 125 = .ok (.getfield 147, 3) := by decide +kernel
theorem dX11_news_128 : decode cX11_news 128 = .ok (.iload 5, 2) := by decide +kernel
theorem dX11_news_130 : decode cX11_news 130 = .ok (.iastore, 1) := by decide +kernel
theorem dX11_news_131 : decode cX11_news 131 = .ok (.aload_n 0, 1) := by decide +kernel
theorem dX11_news_132 : decode cX11_news 132 = .ok (.getfield 165, 3) := by decide +kernel
theorem dX11_news_135 : decode cX11_news 135 = .ok (.aload_n 0, 1) := by decide +kernel
theorem dX11_news_136 : decode cX11_news 136 = .ok (.getfield 147, 3) := by decide +kernel
theorem dX11_news_139 : decode cX11_news 139 = .ok (.aload_n 0, 1) := by decide +kernel
theorem dX11_news_140 : decode cX11_news 140 = .ok (.getfield 26, 3) := by decide +kernel
theorem dX11_news_143 : decode cX11_news 143 = .ok (.iastore, 1) := by decide +kernel
theorem dX11_news_144 : decode cX11_news 144 = .ok (.iload_n 2, 1) := by decide +kernel
theorem dX11_news_145 : decode cX11_news 145 = .ok (.istore 6, 2) := by decide +kernel
theorem dX11_news_147 : decode cX11_news 147 = .ok (.iload 6, 2) := by decide +kernel
theorem dX11_news_149 : decode cX11_news 149 = .ok (.iload_n 3, 1) := by decide +kernel
theorem dX11_news_150 : decode cX11_news 150 = .ok (.if_icmp .ge 37, 3) := by decide +kernel
theorem dX11_news_153 : decode cX11_news 153 = .ok (.aload_n 0, 1) := by decide +kernel
theorem dX11_news_154 : decode cX11_news 154 = .ok (.getfield 131, 3) := by decide +kernel
theorem dX11_news_157 : decode cX11_news 157 = .ok (.bipush 61, 2) := by decide +kernel
theorem dX11_news_159 : decode cX11_news 159 = .ok (.iload_n 1, 1) := by decide +kernel
theorem dX11_news_160 : decode cX11_news 160 = .ok (.imul, 1) := by decide +kernel
theorem dX11_news_161 : decode cX11_news 161 = .ok (.iload 6, 2) := by decide +kernel
theorem dX11_news_163 : decode cX11_news 163 = .ok (.iadd, 1) := by decide +kernel
theorem dX11_news_164 : decode cX11_news 164 = .ok (.iload 4, 2) := by decide +kernel
theorem dX11_news_166 : decode cX11_news 166 = .ok (.iastore, 1) := by decide +kernel
theorem dX11_news_167 : decode cX11_news 167 = .ok (.aload_n 0, 1) := by decide +kernel
theorem dX11_news_168 : decode cX11_news 168 = .ok (.getfield 168, 3) := by decide +kernel
theorem dX11_news_171 : decode cX11_news 171 = .ok (.bipush 61, 2) := by decide +kernel
theorem dX11_news_173 : decode cX11_news 173 = .ok (.iload_n 1, 1) := by decide +kernel
theorem dX11_news_174 : decode cX11_news 174 = .ok (.imul, 1) := by decide +kernel
theorem dX11_news_175 : decode cX11_news 175 = .ok (.iload 6, 2) := by decide +kernel
theorem dX11_news_177 : decode cX11_news 177 = .ok (.iadd, 1) := by decide +kernel
theorem dX11_news_178 : decode cX11_news 178 = .ok (.iload 5, 2) := by decide +kernel
theorem dX11_news_180 : decode cX11_news 180 = .ok (.iastore, 1) := by decide +kernel
theorem dX11_news_181 : decode cX11_news 181 = .ok (.iinc 6 1, 3) := by decide +kernel
theorem dX11_news_184 : decode cX11_news 184 = .ok (.goto (-37), 3) := by decide +kernel
theorem dX11_news_187 : decode cX11_news 187 = .ok (.aload_n 0, 1) := by decide +kernel
theorem dX11_news_188 : decode cX11_news 188 = .ok (.dup, 1) := by decide +kernel
theorem dX11_news_189 : decode cX11_news 189 = .ok (.getfield 147, 3) := by decide +kernel
theorem dX11_news_192 : decode cX11_news 192 = .ok (.iconst 1, 1) := by decide +kernel
theorem dX11_news_193 : decode cX11_news 193 = .ok (.iadd, 1) := by decide +kernel
theorem dX11_news_194 : decode cX11_news 194 = .ok (.putfield 147, 3) := by decide +kernel
theorem dX11_news_197 : decode cX11_news 197 = .ok (.aload_n 0, 1) := by decide +kernel
theorem dX11_news_198 : decode cX11_news 198 = .ok (.getfield 147, 3) := by decide +kernel
theorem dX11_news_201 : decode cX11_news 201 = .ok (.iconst 1, 1) := by decide +kernel
theorem dX11_news_202 : decode cX11_news 202 = .ok (.isub, 1) := by decide +kernel
theorem dX11_news_203 : decode cX11_news 203 = .ok (.ireturn, 1) := by decide +kernel
theorem dX11_knownOf_0 : decode cX11_knownOf 0 = .ok (.iconst 0, 1) := by decide +kernel
theorem dX11_knownOf_1 : decode cX11_knownOf 1 = .ok (.istore 5, 2) := by decide +kernel
theorem dX11_knownOf_3 : decode cX11_knownOf 3 = .ok (.iconst 0, 1) := by decide +kernel
theorem dX11_knownOf_4 : decode cX11_knownOf 4 = .ok (.istore 6, 2) := by decide +kernel
theorem dX11_knownOf_6 : decode cX11_knownOf 6 = .ok (.iload 6, 2) := by decide +kernel
theorem dX11_knownOf_8 : decode cX11_knownOf 8 = .ok (.aload_n 0, 1) := by decide +kernel
theorem dX11_knownOf_9 : decode cX11_knownOf 9 = .ok (.getfield 147, 3) := by decide +kernel
theorem dX11_knownOf_12 : decode cX11_knownOf 12 = .ok (.if_icmp .ge 94, 3) := by decide +kernel
theorem dX11_knownOf_15 : decode cX11_knownOf 15 = .ok (.aload_n 0, 1) := by decide +kernel
theorem dX11_knownOf_16 : decode cX11_knownOf 16 = .ok (.getfield 150, 3) := by decide +kernel
theorem dX11_knownOf_19 : decode cX11_knownOf 19 = .ok (.iload 6, 2) := by decide +kernel
theorem dX11_knownOf_21 : decode cX11_knownOf 21 = .ok (.iaload, 1) := by decide +kernel
theorem dX11_knownOf_22 : decode cX11_knownOf 22 = .ok (.iload_n 1, 1) := by decide +kernel
theorem dX11_knownOf_23 : decode cX11_knownOf 23 = .ok (.if_icmp .ne 40, 3) := by decide +kernel
theorem dX11_knownOf_26 : decode cX11_knownOf 26 = .ok (.aload_n 0, 1) := by decide +kernel
theorem dX11_knownOf_27 : decode cX11_knownOf 27 = .ok (.getfield 165, 3) := by decide +kernel
theorem dX11_knownOf_30 : decode cX11_knownOf 30 = .ok (.iload 6, 2) := by decide +kernel
theorem dX11_knownOf_32 : decode cX11_knownOf 32 = .ok (.iaload, 1) := by decide +kernel
theorem dX11_knownOf_33 : decode cX11_knownOf 33 = .ok (.iload_n 3, 1) := by decide +kernel
theorem dX11_knownOf_34 : decode cX11_knownOf 34 = .ok (.if_icmp .gt 29, 3) := by decide +kernel
theorem dX11_knownOf_37 : decode cX11_knownOf 37 = .ok (.iload_n 2, 1) := by decide +kernel
theorem dX11_knownOf_38 : decode cX11_knownOf 38 = .ok (.aload_n 0, 1) := by decide +kernel
theorem dX11_knownOf_39 : decode cX11_knownOf 39 = .ok (.getfield 153, 3) := by decide +kernel
theorem dX11_knownOf_42 : decode cX11_knownOf 42 = .ok (.iload 6, 2) := by decide +kernel
theorem dX11_knownOf_44 : decode cX11_knownOf 44 = .ok (.iaload, 1) := by decide +kernel
theorem dX11_knownOf_45 : decode cX11_knownOf 45 = .ok (.if_icmp .lt 18, 3) := by decide +kernel
theorem dX11_knownOf_48 : decode cX11_knownOf 48 = .ok (.iload_n 2, 1) := by decide +kernel
theorem dX11_knownOf_49 : decode cX11_knownOf 49 = .ok (.aload_n 0, 1) := by decide +kernel
theorem dX11_knownOf_50 : decode cX11_knownOf 50 = .ok (.getfield 156, 3) := by decide +kernel
theorem dX11_knownOf_53 : decode cX11_knownOf 53 = .ok (.iload 6, 2) := by decide +kernel
theorem dX11_knownOf_55 : decode cX11_knownOf 55 = .ok (.iaload, 1) := by decide +kernel
theorem dX11_knownOf_56 : decode cX11_knownOf 56 = .ok (.if_icmp .ge 7, 3) := by decide +kernel
theorem dX11_knownOf_59 : decode cX11_knownOf 59 = .ok (.iconst 1, 1) := by decide +kernel
theorem dX11_knownOf_60 : decode cX11_knownOf 60 = .ok (.goto 4, 3) := by decide +kernel
theorem dX11_knownOf_63 : decode cX11_knownOf 63 = .ok (.iconst 0, 1) := by decide +kernel
theorem dX11_knownOf_64 : decode cX11_knownOf 64 = .ok (.istore 7, 2) := by decide +kernel
theorem dX11_knownOf_66 : decode cX11_knownOf 66 = .ok (.iload 7, 2) := by decide +kernel
theorem dX11_knownOf_68 : decode cX11_knownOf 68 = .ok (.ifCond .eq 28, 3) := by decide +kernel
theorem dX11_knownOf_71 : decode cX11_knownOf 71 = .ok (.iload 4, 2) := by decide +kernel
theorem dX11_knownOf_73 : decode cX11_knownOf 73 = .ok (.ifCond .eq 13, 3) := by decide +kernel
theorem dX11_knownOf_76 : decode cX11_knownOf 76 = .ok (.aload_n 0, 1) := by decide +kernel
theorem dX11_knownOf_77 : decode cX11_knownOf 77 = .ok (.getfield 162, 3) := by decide +kernel
theorem dX11_knownOf_80 : decode cX11_knownOf 80 = .ok (.iload 6, 2) := by decide +kernel
theorem dX11_knownOf_82 : decode cX11_knownOf 82 = .ok (.iaload, 1) := by decide +kernel
theorem dX11_knownOf_83 : decode cX11_knownOf 83 = .ok (.goto 15, 3) := by decide +kernel
theorem dX11_knownOf_86 : decode cX11_knownOf 86 = .ok (.aload_n 0, 1) := by decide +kernel
theorem dX11_knownOf_87 : decode cX11_knownOf 87 = .ok (.getfield 159, 3) := by decide +kernel
theorem dX11_knownOf_90 : decode cX11_knownOf 90 = .ok (.iload 6, 2) := by decide +kernel
theorem dX11_knownOf_92 : decode cX11_knownOf 92 = .ok (.iaload, 1) := by decide +kernel
theorem dX11_knownOf_93 : decode cX11_knownOf 93 = .ok (.goto 5, 3) := by decide +kernel
theorem dX11_knownOf_96 : decode cX11_knownOf 96 = .ok (.iload 5, 2) := by decide +kernel
theorem dX11_knownOf_98 : decode cX11_knownOf 98 = .ok (.istore 5, 2) := by decide +kernel
theorem dX11_knownOf_100 : decode cX11_knownOf 100 = .ok (.iinc 6 1, 3) := by decide +kernel
theorem dX11_knownOf_103 : decode cX11_knownOf 103 = .ok (.goto (-97), 3) := by decide +kernel
theorem dX11_knownOf_106 : decode cX11_knownOf 106 = .ok (.iload 5, 2) := by decide +kernel
theorem dX11_knownOf_108 : decode cX11_knownOf 108 = .ok (.ireturn, 1) := by decide +kernel
theorem dX11_known_0 : decode cX11_known 0 = .ok (.iload_n 1, 1) := by decide +kernel
theorem dX11_known_1 : decode cX11_known 1 = .ok (.invokestatic 139, 3) := by decide +kernel
theorem dX11_known_4 : decode cX11_known 4 = .ok (.ifCond .eq 40, 3) := by decide +kernel
theorem dX11_known_7 : decode cX11_known 7 = .ok (.iload_n 2, 1) := by decide +kernel
theorem dX11_known_8 : decode cX11_known 8 = .ok (.i2l, 1) := by decide +kernel
theorem dX11_known_9 : decode cX11_known 9 = .ok (.lconst 0, 1) := by decide +kernel
theorem dX11_known_10 : decode cX11_known 10 = .ok (.ldc2_w 134, 3) := by decide +kernel
theorem dX11_known_13 : decode cX11_known 13 = .ok (.invokestatic 18, 3) := by decide +kernel
theorem dX11_known_16 : decode cX11_known 16 = .ok (.ifCond .eq 28, 3) := by decide +kernel
theorem dX11_known_19 : decode cX11_known 19 = .ok (.iload_n 3, 1) := by decide +kernel
theorem dX11_known_20 : decode cX11_known 20 = .ok (.i2l, 1) := by decide +kernel
theorem dX11_known_21 : decode cX11_known 21 = .ok (.lconst 0, 1) := by decide +kernel
theorem dX11_known_22 : decode cX11_known 22 = .ok (.aload_n 0, 1) := by decide +kernel
theorem dX11_known_23 : decode cX11_known 23 = .ok (.getfield 26, 3) := by decide +kernel
theorem dX11_known_26 : decode cX11_known 26 = .ok (.i2l, 1) := by decide +kernel
theorem dX11_known_27 : decode cX11_known 27 = .ok (.invokestatic 18, 3) := by decide +kernel
theorem dX11_known_30 : decode cX11_known 30 = .ok (.ifCond .eq 14, 3) := by decide +kernel
theorem dX11_known_33 : decode cX11_known 33 = .ok (.iload 4, 2) := by decide +kernel
theorem dX11_known_35 : decode cX11_known 35 = .ok (.i2l, 1) := by decide +kernel
theorem dX11_known_36 : decode cX11_known 36 = .ok (.lconst 0, 1) := by decide +kernel
theorem dX11_known_37 : decode cX11_known 37 = .ok (.lconst 1, 1) := by decide +kernel
theorem dX11_known_38 : decode cX11_known 38 = .ok (.invokestatic 18, 3) := by decide +kernel
theorem dX11_known_41 : decode cX11_known 41 = .ok (.ifCond .ne 6, 3) := by decide +kernel
theorem dX11_known_44 : decode cX11_known 44 = .ok (.bipush (-2), 2) := by decide +kernel
theorem dX11_known_46 : decode cX11_known 46 = .ok (.ireturn, 1) := by decide +kernel
theorem dX11_known_47 : decode cX11_known 47 = .ok (.aload_n 0, 1) := by decide +kernel
theorem dX11_known_48 : decode cX11_known 48 = .ok (.iload_n 1, 1) := by decide +kernel
theorem dX11_known_49 : decode cX11_known 49 = .ok (.iload_n 2, 1) := by decide +kernel
theorem dX11_known_50 : decode cX11_known 50 = .ok (.iload_n 3, 1) := by decide +kernel
theorem dX11_known_51 : decode cX11_known 51 = .ok (.iload 4, 2) := by decide +kernel
theorem dX11_known_53 : decode cX11_known 53 = .ok (.iconst 1, 1) := by decide +kernel
theorem dX11_known_54 : decode cX11_known 54 = .ok (.if_icmp .ne 7, 3) := by decide +kernel
theorem dX11_known_57 : decode cX11_known 57 = .ok (.iconst 1, 1) := by decide +kernel
theorem dX11_known_58 : decode cX11_known 58 = .ok (.goto 4, 3) := by decide +kernel
theorem dX11_known_61 : decode cX11_known 61 = .ok (.iconst 0, 1) := by decide +kernel
theorem dX11_known_62 : decode cX11_known 62 = .ok (.invokevirtual 171, 3) := by decide +kernel
theorem dX11_known_65 : decode cX11_known 65 = .ok (.ireturn, 1) := by decide +kernel
theorem dX11_feed_0 : decode cX11_feed 0 = .ok (.iload_n 1, 1) := by decide +kernel
theorem dX11_feed_1 : decode cX11_feed 1 = .ok (.i2l, 1) := by decide +kernel
theorem dX11_feed_2 : decode cX11_feed 2 = .ok (.lconst 1, 1) := by decide +kernel
theorem dX11_feed_3 : decode cX11_feed 3 = .ok (.ldc2_w 175, 3) := by decide +kernel
theorem dX11_feed_6 : decode cX11_feed 6 = .ok (.invokestatic 18, 3) := by decide +kernel
theorem dX11_feed_9 : decode cX11_feed 9 = .ok (.ifCond .ne 6, 3) := by decide +kernel
theorem dX11_feed_12 : decode cX11_feed 12 = .ok (.bipush (-2), 2) := by decide +kernel
theorem dX11_feed_14 : decode cX11_feed 14 = .ok (.ireturn, 1) := by decide +kernel
theorem dX11_feed_15 : decode cX11_feed 15 = .ok (.aload_n 0, 1) := by decide +kernel
theorem dX11_feed_16 : decode cX11_feed 16 = .ok (.getfield 177, 3) := by decide +kernel
theorem dX11_feed_19 : decode cX11_feed 19 = .ok (.iload_n 1, 1) := by decide +kernel
theorem dX11_feed_20 : decode cX11_feed 20 = .ok (.iadd, 1) := by decide +kernel
theorem dX11_feed_21 : decode cX11_feed 21 = .ok (.sipush 160, 3) := by decide +kernel
theorem dX11_feed_24 : decode cX11_feed 24 = .ok (.if_icmp .le 6, 3) := by decide +kernel
theorem dX11_feed_27 : decode cX11_feed 27 = .ok (.bipush (-4), 2) := by decide +kernel
theorem dX11_feed_29 : decode cX11_feed 29 = .ok (.ireturn, 1) := by decide +kernel
theorem dX11_feed_30 : decode cX11_feed 30 = .ok (.iconst 0, 1) := by decide +kernel
theorem dX11_feed_31 : decode cX11_feed 31 = .ok (.istore 4, 2) := by decide +kernel
theorem dX11_feed_33 : decode cX11_feed 33 = .ok (.iload 4, 2) := by decide +kernel
theorem dX11_feed_35 : decode cX11_feed 35 = .ok (.iload_n 1, 1) := by decide +kernel
theorem dX11_feed_36 : decode cX11_feed 36 = .ok (.if_icmp .ge 37, 3) := by decide +kernel
theorem dX11_feed_39 : decode cX11_feed 39 = .ok (.aload_n 0, 1) := by decide +kernel
theorem dX11_feed_40 : decode cX11_feed 40 = .ok (.getfield 180, 3) := by decide +kernel
theorem dX11_feed_43 : decode cX11_feed 43 = .ok (.aload_n 0, 1) := by decide +kernel
theorem dX11_feed_44 : decode cX11_feed 44 = .ok (.getfield 177, 3) := by decide +kernel
theorem dX11_feed_47 : decode cX11_feed 47 = .ok (.lload_n 2, 1) := by decide +kernel
theorem dX11_feed_48 : decode cX11_feed 48 = .ok (.bipush 8, 2) := by decide +kernel
theorem dX11_feed_50 : decode cX11_feed 50 = .ok (.iload 4, 2) := by decide +kernel
theorem dX11_feed_52 : decode cX11_feed 52 = .ok (.imul, 1) := by decide +kernel
theorem dX11_feed_53 : decode cX11_feed 53 = .ok (.lshr, 1) := by decide +kernel
theorem dX11_feed_54 : decode cX11_feed 54 = .ok (.l2i, 1) := by decide +kernel
theorem dX11_feed_55 : decode cX11_feed 55 = .ok (.i2b, 1) := by decide +kernel
theorem dX11_feed_56 : decode cX11_feed 56 = .ok (.bastore, 1) := by decide +kernel
theorem dX11_feed_57 : decode cX11_feed 57 = .ok (.aload_n 0, 1) := by decide +kernel
theorem dX11_feed_58 : decode cX11_feed 58 = .ok (.dup, 1) := by decide +kernel
theorem dX11_feed_59 : decode cX11_feed 59 = .ok (.getfield 177, 3) := by decide +kernel
theorem dX11_feed_62 : decode cX11_feed 62 = .ok (.iconst 1, 1) := by decide +kernel
theorem dX11_feed_63 : decode cX11_feed 63 = .ok (.iadd, 1) := by decide +kernel
theorem dX11_feed_64 : decode cX11_feed 64 = .ok (.putfield 177, 3) := by decide +kernel
theorem dX11_feed_67 : decode cX11_feed 67 = .ok (.iinc 4 1, 3) := by decide +kernel
theorem dX11_feed_70 : decode cX11_feed 70 = .ok (.goto (-37), 3) := by decide +kernel
theorem dX11_feed_73 : decode cX11_feed 73 = .ok (.aload_n 0, 1) := by decide +kernel
theorem dX11_feed_74 : decode cX11_feed 74 = .ok (.getfield 177, 3) := by decide +kernel
theorem dX11_feed_77 : decode cX11_feed 77 = .ok (.ireturn, 1) := by decide +kernel
theorem dX11_isLetter_0 : decode cX11_isLetter 0 = .ok (.iload_n 1, 1) := by decide +kernel
theorem dX11_isLetter_1 : decode cX11_isLetter 1 = .ok (.aload_n 0, 1) := by decide +kernel
theorem dX11_isLetter_2 : decode cX11_isLetter 2 = .ok (.getfield 177, 3) := by decide +kernel
theorem dX11_isLetter_5 : decode cX11_isLetter 5 = .ok (.if_icmp .ge 29, 3) := by decide +kernel
theorem dX11_isLetter_8 : decode cX11_isLetter 8 = .ok (.aload_n 0, 1) := by decide +kernel
theorem dX11_isLetter_9 : decode cX11_isLetter 9 = .ok (.getfield 180, 3) := by decide +kernel
theorem dX11_isLetter_12 : decode cX11_isLetter 12 = .ok (.iload_n 1, 1) := by decide +kernel
theorem dX11_isLetter_13 : decode cX11_isLetter 13 = .ok (.baload, 1) := by decide +kernel
theorem dX11_isLetter_14 : decode cX11_isLetter 14 = .ok (.bipush 97, 2) := by decide +kernel
theorem dX11_isLetter_16 : decode cX11_isLetter 16 = .ok (.if_icmp .lt 18, 3) := by decide +kernel
theorem dX11_isLetter_19 : decode cX11_isLetter 19 = .ok (.aload_n 0, 1) := by decide +kernel
theorem dX11_isLetter_20 : decode cX11_isLetter 20 = .ok (.getfield 180, 3) := by decide +kernel
theorem dX11_isLetter_23 : decode cX11_isLetter 23 = .ok (.iload_n 1, 1) := by decide +kernel
theorem dX11_isLetter_24 : decode cX11_isLetter 24 = .ok (.baload, 1) := by decide +kernel
theorem dX11_isLetter_25 : decode cX11_isLetter 25 = .ok (.bipush 122, 2) := by decide +kernel
theorem dX11_isLetter_27 : decode cX11_isLetter 27 = .ok (.if_icmp .gt 7, 3) := by decide +kernel
theorem dX11_isLetter_30 : decode cX11_isLetter 30 = .ok (.iconst 1, 1) := by decide +kernel
theorem dX11_isLetter_31 : decode cX11_isLetter 31 = .ok (.goto 4, 3) := by decide +kernel
theorem dX11_isLetter_34 : decode cX11_isLetter 34 = .ok (.iconst 0, 1) := by decide +kernel
theorem dX11_isLetter_35 : decode cX11_isLetter 35 = .ok (.ireturn, 1) := by decide +kernel
theorem dX11_isDigit_0 : decode cX11_isDigit 0 = .ok (.iload_n 1, 1) := by decide +kernel
theorem dX11_isDigit_1 : decode cX11_isDigit 1 = .ok (.aload_n 0, 1) := by decide +kernel
theorem dX11_isDigit_2 : decode cX11_isDigit 2 = .ok (.getfield 177, 3) := by decide +kernel
theorem dX11_isDigit_5 : decode cX11_isDigit 5 = .ok (.if_icmp .ge 29, 3) := by decide +kernel
theorem dX11_isDigit_8 : decode cX11_isDigit 8 = .ok (.aload_n 0, 1) := by decide +kernel
theorem dX11_isDigit_9 : decode cX11_isDigit 9 = .ok (.getfield 180, 3) := by decide +kernel
theorem dX11_isDigit_12 : decode cX11_isDigit 12 = .ok (.iload_n 1, 1) := by decide +kernel
theorem dX11_isDigit_13 : decode cX11_isDigit 13 = .ok (.baload, 1) := by decide +kernel
theorem dX11_isDigit_14 : decode cX11_isDigit 14 = .ok (.bipush 48, 2) := by decide +kernel
theorem dX11_isDigit_16 : decode cX11_isDigit 16 = .ok (.if_icmp .lt 18, 3) := by decide +kernel
theorem dX11_isDigit_19 : decode cX11_isDigit 19 = .ok (.aload_n 0, 1) := by decide +kernel
theorem dX11_isDigit_20 : decode cX11_isDigit 20 = .ok (.getfield 180, 3) := by decide +kernel
theorem dX11_isDigit_23 : decode cX11_isDigit 23 = .ok (.iload_n 1, 1) := by decide +kernel
theorem dX11_isDigit_24 : decode cX11_isDigit 24 = .ok (.baload, 1) := by decide +kernel
theorem dX11_isDigit_25 : decode cX11_isDigit 25 = .ok (.bipush 57, 2) := by decide +kernel
theorem dX11_isDigit_27 : decode cX11_isDigit 27 = .ok (.if_icmp .gt 7, 3) := by decide +kernel
theorem dX11_isDigit_30 : decode cX11_isDigit 30 = .ok (.iconst 1, 1) := by decide +kernel
theorem dX11_isDigit_31 : decode cX11_isDigit 31 = .ok (.goto 4, 3) := by decide +kernel
theorem dX11_isDigit_34 : decode cX11_isDigit 34 = .ok (.iconst 0, 1) := by decide +kernel
theorem dX11_isDigit_35 : decode cX11_isDigit 35 = .ok (.ireturn, 1) := by decide +kernel
theorem dX11_readWord_0 : decode cX11_readWord 0 = .ok (.aload_n 0, 1) := by decide +kernel
theorem dX11_readWord_1 : decode cX11_readWord 1 = .ok (.aload_n 0, 1) := by decide +kernel
theorem dX11_readWord_2 : decode cX11_readWord 2 = .ok (.getfield 184, 3) := by decide +kernel
theorem dX11_readWord_5 : decode cX11_readWord 5 = .ok (.invokevirtual 187, 3) := by decide +kernel
theorem dX11_readWord_8 : decode cX11_readWord 8 = .ok (.ifCond .eq 16, 3) := by decide +kernel
theorem dX11_readWord_11 : decode cX11_readWord 11 = .ok (.aload_n 0, 1) := by decide +kernel
theorem dX11_readWord_12 : decode cX11_readWord 12 = .ok (.dup, 1) := by decide +kernel
theorem dX11_readWord_13 : decode cX11_readWord 13 = .ok (.getfield 184, 3) := by decide +kernel
theorem dX11_readWord_16 : decode cX11_readWord 16 = .ok (.iconst 1, 1) := by decide +kernel
theorem dX11_readWord_17 : decode cX11_readWord 17 = .ok (.iadd, 1) := by decide +kernel
theorem dX11_readWord_18 : decode cX11_readWord 18 = .ok (.putfield 184, 3) := by decide +kernel
theorem dX11_readWord_21 : decode cX11_readWord 21 = .ok (.goto (-21), 3) := by decide +kernel
theorem dX11_readWord_24 : decode cX11_readWord 24 = .ok (.aload_n 0, 1) := by decide +kernel
theorem dX11_readWord_25 : decode cX11_readWord 25 = .ok (.iconst 5, 1) := by decide +kernel
theorem dX11_readWord_26 : decode cX11_readWord 26 = .ok (.putfield 190, 3) := by decide +kernel
theorem dX11_readWord_29 : decode cX11_readWord 29 = .ok (.iconst 0, 1) := by decide +kernel
theorem dX11_readWord_30 : decode cX11_readWord 30 = .ok (.istore_n 1, 1) := by decide +kernel
theorem dX11_readWord_31 : decode cX11_readWord 31 = .ok (.iload_n 1, 1) := by decide +kernel
theorem dX11_readWord_32 : decode cX11_readWord 32 = .ok (.bipush 11, 2) := by decide +kernel
theorem dX11_readWord_34 : decode cX11_readWord 34 = .ok (.if_icmp .ge 135, 3) := by decide +kernel
theorem dX11_readWord_37 : decode cX11_readWord 37 = .ok (.aload_n 0, 1) := by decide +kernel
theorem dX11_readWord_38 : decode cX11_readWord 38 = .ok (.getfield 193, 3) := by decide +kernel
theorem dX11_readWord_41 : decode cX11_readWord 41 = .ok (.iload_n 1, 1) := by decide +kernel
theorem dX11_readWord_42 : decode cX11_readWord 42 = .ok (.iconst 1, 1) := by decide +kernel
theorem dX11_readWord_43 : decode cX11_readWord 43 = .ok (.iadd, 1) := by decide +kernel
theorem dX11_readWord_44 : decode cX11_readWord 44 = .ok (.iaload, 1) := by decide +kernel
theorem dX11_readWord_45 : decode cX11_readWord 45 = .ok (.aload_n 0, 1) := by decide +kernel
theorem dX11_readWord_46 : decode cX11_readWord 46 = .ok (.getfield 193, 3) := by decide +kernel
theorem dX11_readWord_49 : decode cX11_readWord 49 = .ok (.iload_n 1, 1) := by decide +kernel
theorem dX11_readWord_50 : decode cX11_readWord 50 = .ok (.iaload, 1) := by decide +kernel
theorem dX11_readWord_51 : decode cX11_readWord 51 = .ok (.isub, 1) := by decide +kernel
theorem dX11_readWord_52 : decode cX11_readWord 52 = .ok (.istore_n 2, 1) := by decide +kernel
theorem dX11_readWord_53 : decode cX11_readWord 53 = .ok (.iload_n 2, 1) := by decide +kernel
theorem dX11_readWord_54 : decode cX11_readWord 54 = .ok (.aload_n 0, 1) := by decide +kernel
theorem dX11_readWord_55 : decode cX11_readWord 55 = .ok (.getfield 184, 3) := by decide +kernel
theorem dX11_readWord_58 : decode cX11_readWord 58 = .ok (.aload_n 0, 1) := by decide +kernel
theorem dX11_readWord_59 : decode cX11_readWord 59 = .ok (.getfield 196, 3) := by decide +kernel
theorem dX11_readWord_62 : decode cX11_readWord 62 = .ok (.isub, 1) := by decide +kernel
theorem dX11_readWord_63 : decode cX11_readWord 63 = .ok (.if_icmp .ne 7, 3) := by decide +kernel
theorem dX11_readWord_66 : decode cX11_readWord 66 = .ok (.iconst 1, 1) := by decide +kernel
theorem dX11_readWord_67 : decode cX11_readWord 67 = .ok (.goto 4, 3) := by decide +kernel
theorem dX11_readWord_70 : decode cX11_readWord 70 = .ok (.iconst 0, 1) := by decide +kernel
theorem dX11_readWord_71 : decode cX11_readWord 71 = .ok (.istore_n 3, 1) := by decide +kernel
theorem dX11_readWord_72 : decode cX11_readWord 72 = .ok (.iconst 0, 1) := by decide +kernel
theorem dX11_readWord_73 : decode cX11_readWord 73 = .ok (.istore 4, 2) := by decide +kernel
theorem dX11_readWord_75 : decode cX11_readWord 75 = .ok (.iload 4, 2) := by decide +kernel
theorem dX11_readWord_77 : decode cX11_readWord 77 = .ok (.iload_n 2, 1) := by decide +kernel
theorem dX11_readWord_78 : decode cX11_readWord 78 = .ok (.if_icmp .ge 48, 3) := by decide +kernel
theorem dX11_readWord_81 : decode cX11_readWord 81 = .ok (.iload_n 3, 1) := by decide +kernel
theorem dX11_readWord_82 : decode cX11_readWord 82 = .ok (.ifCond .eq 44, 3) := by decide +kernel
theorem dX11_readWord_85 : decode cX11_readWord 85 = .ok (.aload_n 0, 1) := by decide +kernel
theorem dX11_readWord_86 : decode cX11_readWord 86 = .ok (.getfield 180, 3) := by decide +kernel
theorem dX11_readWord_89 : decode cX11_readWord 89 = .ok (.aload_n 0, 1) := by decide +kernel
theorem dX11_readWord_90 : decode cX11_readWord 90 = .ok (.getfield 196, 3) := by decide +kernel
theorem dX11_readWord_93 : decode cX11_readWord 93 = .ok (.iload 4, 2) := by decide +kernel
theorem dX11_readWord_95 : decode cX11_readWord 95 = .ok (.iadd, 1) := by decide +kernel
theorem dX11_readWord_96 : decode cX11_readWord 96 = .ok (.baload, 1) := by decide +kernel
theorem dX11_readWord_97 : decode cX11_readWord 97 = .ok (.aload_n 0, 1) := by decide +kernel
theorem dX11_readWord_98 : decode cX11_readWord 98 = .ok (.getfield 199, 3) := by decide +kernel
theorem dX11_readWord_101 : decode cX11_readWord 101 = .ok (.aload_n 0, 1) := by decide +kernel
theorem dX11_readWord_102 : decode cX11_readWord 102 = .ok (.getfield 193, 3) := by decide +kernel
theorem dX11_readWord_105 : decode cX11_readWord 105 = .ok (.iload_n 1, 1) := by decide +kernel
theorem dX11_readWord_106 : decode cX11_readWord 106 = .ok (.iaload, 1) := by decide +kernel
theorem dX11_readWord_107 : decode cX11_readWord 107 = .ok (.iload 4, 2) := by decide +kernel
theorem dX11_readWord_109 : decode cX11_readWord 109 = .ok (.iadd, 1) := by decide +kernel
theorem dX11_readWord_110 : decode cX11_readWord 110 = .ok (.caload, 1) := by decide +kernel
theorem dX11_readWord_111 : decode cX11_readWord 111 = .ok (.if_icmp .ne 7, 3) := by decide +kernel
theorem dX11_readWord_114 : decode cX11_readWord 114 = .ok (.iconst 1, 1) := by decide +kernel
theorem dX11_readWord_115 : decode cX11_readWord 115 = .ok (.goto 4, 3) := by decide +kernel
theorem dX11_readWord_118 : decode cX11_readWord 118 = .ok (.iconst 0, 1) := by decide +kernel
theorem dX11_readWord_119 : decode cX11_readWord 119 = .ok (.istore_n 3, 1) := by decide +kernel
theorem dX11_readWord_120 : decode cX11_readWord 120 = .ok (.iinc 4 1, 3) := by decide +kernel
theorem dX11_readWord_123 : decode cX11_readWord 123 = .ok (.goto (-48), 3) := by decide +kernel
theorem dX11_readWord_126 : decode cX11_readWord 126 = .ok (.iload_n 3, 1) := by decide +kernel
theorem dX11_readWord_127 : decode cX11_readWord 127 = .ok (.ifCond .eq 36, 3) := by decide +kernel
theorem dX11_readWord_130 : decode cX11_readWord 130 = .ok (.aload_n 0, 1) := by decide +kernel
theorem dX11_readWord_131 : decode cX11_readWord 131 = .ok (.iload_n 1, 1) := by decide +kernel
theorem dX11_readWord_132 : decode cX11_readWord 132 = .ok (.bipush 6, 2) := by decide +kernel
theorem dX11_readWord_134 : decode cX11_readWord 134 = .ok (.if_icmp .ge 7, 3) := by decide +kernel
theorem dX11_readWord_137 : decode cX11_readWord 137 = .ok (.iconst 2, 1) := by decide +kernel
theorem dX11_readWord_138 : decode cX11_readWord 138 = .ok (.goto 4, 3) := by decide +kernel
theorem dX11_readWord_141 : decode cX11_readWord 141 = .ok (.iconst 4, 1) := by decide +kernel
theorem dX11_readWord_142 : decode cX11_readWord 142 = .ok (.putfield 190, 3) := by decide +kernel
theorem dX11_readWord_145 : decode cX11_readWord 145 = .ok (.aload_n 0, 1) := by decide +kernel
theorem dX11_readWord_146 : decode cX11_readWord 146 = .ok (.iload_n 1, 1) := by decide +kernel
theorem dX11_readWord_147 : decode cX11_readWord 147 = .ok (.bipush 6, 2) := by decide +kernel
theorem dX11_readWord_149 : decode cX11_readWord 149 = .ok (.if_icmp .ge 7, 3) := by decide +kernel
theorem dX11_readWord_152 : decode cX11_readWord 152 = .ok (.iload_n 1, 1) := by decide +kernel
theorem dX11_readWord_153 : decode cX11_readWord 153 = .ok (.goto 7, 3) := by decide +kernel
theorem dX11_readWord_156 : decode cX11_readWord 156 = .ok (.iload_n 1, 1) := by decide +kernel
theorem dX11_readWord_157 : decode cX11_readWord 157 = .ok (.bipush 6, 2) := by decide +kernel
theorem dX11_readWord_159 : decode cX11_readWord 159 = .ok (.isub, 1) := by decide +kernel
theorem dX11_readWord_160 : decode cX11_readWord 160 = .ok (.putfield 203, 3) := by decide +kernel
theorem dX11_readWord_163 : decode cX11_readWord 163 = .ok (.iinc 1 1, 3) := by decide +kernel
theorem dX11_readWord_166 : decode cX11_readWord 166 = .ok (.goto (-135), 3) := by decide +kernel
theorem dX11_readWord_169 : decode cX11_readWord 169 = .ok (.return_, 1) := by decide +kernel
theorem dX11_readNumber_0 : decode cX11_readNumber 0 = .ok (.aload_n 0, 1) := by decide +kernel
theorem dX11_readNumber_1 : decode cX11_readNumber 1 = .ok (.iconst 0, 1) := by decide +kernel
theorem dX11_readNumber_2 : decode cX11_readNumber 2 = .ok (.putfield 203, 3) := by decide +kernel
theorem dX11_readNumber_5 : decode cX11_readNumber 5 = .ok (.aload_n 0, 1) := by decide +kernel
theorem dX11_readNumber_6 : decode cX11_readNumber 6 = .ok (.aload_n 0, 1) := by decide +kernel
theorem dX11_readNumber_7 : decode cX11_readNumber 7 = .ok (.getfield 184, 3) := by decide +kernel
theorem dX11_readNumber_10 : decode cX11_readNumber 10 = .ok (.invokevirtual 206, 3) := by decide +kernel
theorem dX11_readNumber_13 : decode cX11_readNumber 13 = .ok (.ifCond .eq 60, 3) := by decide +kernel
theorem dX11_readNumber_16 : decode cX11_readNumber 16 = .ok (.aload_n 0, 1) := by decide +kernel
theorem dX11_readNumber_17 : decode cX11_readNumber 17 = .ok (.aload_n 0, 1) := by decide +kernel
theorem dX11_readNumber_18 : decode cX11_readNumber 18 = .ok (.getfield 184, 3) := by decide +kernel
theorem dX11_readNumber_21 : decode cX11_readNumber 21 = .ok (.aload_n 0, 1) := by decide +kernel
theorem dX11_readNumber_22 : decode cX11_readNumber 22 = .ok (.getfield 196, 3) := by decide +kernel
theorem dX11_readNumber_25 : decode cX11_readNumber 25 = .ok (.isub, 1) := by decide +kernel
theorem dX11_readNumber_26 : decode cX11_readNumber 26 = .ok (.iconst 4, 1) := by decide +kernel
theorem dX11_readNumber_27 : decode cX11_readNumber 27 = .ok (.if_icmp .ge 26, 3) := by decide +kernel
theorem dX11_readNumber_30 : decode cX11_readNumber 30 = .ok (.bipush 10, 2) := by decide +kernel
theorem dX11_readNumber_32 : decode cX11_readNumber 32 = .ok (.aload_n 0, 1) := by decide +kernel
theorem dX11_readNumber_33 : decode cX11_readNumber 33 = .ok (.getfield 203, 3) := by decide +kernel
theorem dX11_readNumber_36 : decode cX11_readNumber 36 = .ok (.imul, 1) := by decide +kernel
theorem dX11_readNumber_37 : decode cX11_readNumber 37 = .ok (.aload_n 0, 1) := by decide +kernel
theorem dX11_readNumber_38 : decode cX11_readNumber 38 = .ok (.getfield 180, 3) := by decide +kernel
theorem dX11_readNumber_41 : decode cX11_readNumber 41 = .ok (.aload_n 0, 1) := by decide +kernel
theorem dX11_readNumber_42 : decode cX11_readNumber 42 = .ok (.getfield 184, 3) := by decide +kernel
theorem dX11_readNumber_45 : decode cX11_readNumber 45 = .ok (.baload, 1) := by decide +kernel
theorem dX11_readNumber_46 : decode cX11_readNumber 46 = .ok (.iadd, 1) := by decide +kernel
theorem dX11_readNumber_47 : decode cX11_readNumber 47 = .ok (.bipush 48, 2) := by decide +kernel
theorem dX11_readNumber_49 : decode cX11_readNumber 49 = .ok (.isub, 1) := by decide +kernel
theorem dX11_readNumber_50 : decode cX11_readNumber 50 = .ok (.goto 7, 3) := by decide +kernel
theorem dX11_readNumber_53 : decode cX11_readNumber 53 = .ok (.aload_n 0, 1) := by decide +kernel
theorem dX11_readNumber_54 : decode cX11_readNumber 54 = .ok (.getfield 203, 3) := by decide +kernel
theorem dX11_readNumber_57 : decode cX11_readNumber 57 = .ok (.putfield 203, 3) := by decide +kernel
theorem dX11_readNumber_60 : decode cX11_readNumber 60 = .ok (.aload_n 0, 1) := by decide +kernel
theorem dX11_readNumber_61 : decode cX11_readNumber 61 = .ok (.dup, 1) := by decide +kernel
theorem dX11_readNumber_62 : decode cX11_readNumber 62 = .ok (.getfield 184, 3) := by decide +kernel
theorem dX11_readNumber_65 : decode cX11_readNumber 65 = .ok (.iconst 1, 1) := by decide +kernel
theorem dX11_readNumber_66 : decode cX11_readNumber 66 = .ok (.iadd, 1) := by decide +kernel
theorem dX11_readNumber_67 : decode cX11_readNumber 67 = .ok (.putfield 184, 3) := by decide +kernel
theorem dX11_readNumber_70 : decode cX11_readNumber 70 = .ok (.goto (-65), 3) := by decide +kernel
theorem dX11_readNumber_73 : decode cX11_readNumber 73 = .ok (.aload_n 0, 1) := by decide +kernel
theorem dX11_readNumber_74 : decode cX11_readNumber 74 = .ok (.aload_n 0, 1) := by decide +kernel
theorem dX11_readNumber_75 : decode cX11_readNumber 75 = .ok (.getfield 184, 3) := by decide +kernel
theorem dX11_readNumber_78 : decode cX11_readNumber 78 = .ok (.aload_n 0, 1) := by decide +kernel
theorem dX11_readNumber_79 : decode cX11_readNumber 79 = .ok (.getfield 196, 3) := by decide +kernel
theorem dX11_readNumber_82 : decode cX11_readNumber 82 = .ok (.isub, 1) := by decide +kernel
theorem dX11_readNumber_83 : decode cX11_readNumber 83 = .ok (.iconst 4, 1) := by decide +kernel
theorem dX11_readNumber_84 : decode cX11_readNumber 84 = .ok (.if_icmp .le 7, 3) := by decide +kernel
theorem dX11_readNumber_87 : decode cX11_readNumber 87 = .ok (.iconst 5, 1) := by decide +kernel
theorem dX11_readNumber_88 : decode cX11_readNumber 88 = .ok (.goto 4, 3) := by decide +kernel
theorem dX11_readNumber_91 : decode cX11_readNumber 91 = .ok (.iconst 1, 1) := by decide +kernel
theorem dX11_readNumber_92 : decode cX11_readNumber 92 = .ok (.putfield 190, 3) := by decide +kernel
theorem dX11_readNumber_95 : decode cX11_readNumber 95 = .ok (.return_, 1) := by decide +kernel
theorem dX11_next_0 : decode cX11_next 0 = .ok (.aload_n 0, 1) := by decide +kernel
theorem dX11_next_1 : decode cX11_next 1 = .ok (.getfield 184, 3) := by decide +kernel
theorem dX11_next_4 : decode cX11_next 4 = .ok (.aload_n 0, 1) := by decide +kernel
theorem dX11_next_5 : decode cX11_next 5 = .ok (.getfield 177, 3) := by decide +kernel
theorem dX11_next_8 : decode cX11_next 8 = .ok (.if_icmp .ge 44, 3) := by decide +kernel
theorem dX11_next_11 : decode cX11_next 11 = .ok (.aload_n 0, 1) := by decide +kernel
theorem dX11_next_12 : decode cX11_next 12 = .ok (.getfield 180, 3) := by decide +kernel
theorem dX11_next_15 : decode cX11_next 15 = .ok (.aload_n 0, 1) := by decide +kernel
theorem dX11_next_16 : decode cX11_next 16 = .ok (.getfield 184, 3) := by decide +kernel
theorem dX11_next_19 : decode cX11_next 19 = .ok (.baload, 1) := by decide +kernel
theorem dX11_next_20 : decode cX11_next 20 = .ok (.bipush 32, 2) := by decide +kernel
theorem dX11_next_22 : decode cX11_next 22 = .ok (.if_icmp .eq 17, 3) := by decide +kernel
theorem dX11_next_25 : decode cX11_next 25 = .ok (.aload_n 0, 1) := by decide +kernel
theorem dX11_next_26 : decode cX11_next 26 = .ok (.getfield 180, 3) := by decide +kernel
theorem dX11_next_29 : decode cX11_next 29 = .ok (.aload_n 0, 1) := by decide +kernel
theorem dX11_next_30 : decode cX11_next 30 = .ok (.getfield 184, 3) := by decide +kernel
theorem dX11_next_33 : decode cX11_next 33 = .ok (.baload, 1) := by decide +kernel
theorem dX11_next_34 : decode cX11_next 34 = .ok (.bipush 10, 2) := by decide +kernel
theorem dX11_next_36 : decode cX11_next 36 = .ok (.if_icmp .ne 16, 3) := by decide +kernel
theorem dX11_next_39 : decode cX11_next 39 = .ok (.aload_n 0, 1) := by decide +kernel
theorem dX11_next_40 : decode cX11_next 40 = .ok (.dup, 1) := by decide +kernel
theorem dX11_next_41 : decode cX11_next 41 = .ok (.getfield 184, 3) := by decide +kernel
theorem dX11_next_44 : decode cX11_next 44 = .ok (.iconst 1, 1) := by decide +kernel
theorem dX11_next_45 : decode cX11_next 45 = .ok (.iadd, 1) := by decide +kernel
theorem dX11_next_46 : decode cX11_next 46 = .ok (.putfield 184, 3) := by decide +kernel
theorem dX11_next_49 : decode cX11_next 49 = .ok (.goto (-49), 3) := by decide +kernel
theorem dX11_next_52 : decode cX11_next 52 = .ok (.aload_n 0, 1) := by decide +kernel
theorem dX11_next_53 : decode cX11_next 53 = .ok (.aload_n 0, 1) := by decide +kernel
theorem dX11_next_54 : decode cX11_next 54 = .ok (.getfield 184, 3) := by decide +kernel
theorem dX11_next_57 : decode cX11_next 57 = .ok (.putfield 196, 3) := by decide +kernel
theorem dX11_next_60 : decode cX11_next 60 = .ok (.aload_n 0, 1) := by decide +kernel
theorem dX11_next_61 : decode cX11_next 61 = .ok (.getfield 184, 3) := by decide +kernel
theorem dX11_next_64 : decode cX11_next 64 = .ok (.aload_n 0, 1) := by decide +kernel
theorem dX11_next_65 : decode cX11_next 65 = .ok (.getfield 177, 3) := by decide +kernel
theorem dX11_next_68 : decode cX11_next 68 = .ok (.if_icmp .ne 11, 3) := by decide +kernel
theorem dX11_next_71 : decode cX11_next 71 = .ok (.aload_n 0, 1) := by decide +kernel
theorem dX11_next_72 : decode cX11_next 72 = .ok (.iconst 0, 1) := by decide +kernel
theorem dX11_next_73 : decode cX11_next 73 = .ok (.putfield 190, 3) := by decide +kernel
theorem dX11_next_76 : decode cX11_next 76 = .ok (.goto 153, 3) := by decide +kernel
theorem dX11_next_79 : decode cX11_next 79 = .ok (.aload_n 0, 1) := by decide +kernel
theorem dX11_next_80 : decode cX11_next 80 = .ok (.aload_n 0, 1) := by decide +kernel
theorem dX11_next_81 : decode cX11_next 81 = .ok (.getfield 184, 3) := by decide +kernel
theorem dX11_next_84 : decode cX11_next 84 = .ok (.invokevirtual 187, 3) := by decide +kernel
theorem dX11_next_87 : decode cX11_next 87 = .ok (.ifCond .eq 10, 3) := by decide +kernel
theorem dX11_next_90 : decode cX11_next 90 = .ok (.aload_n 0, 1) := by decide +kernel
theorem dX11_next_91 : decode cX11_next 91 = .ok (.invokevirtual 209, 3) := by decide +kernel
theorem dX11_next_94 : decode cX11_next 94 = .ok (.goto 135, 3) := by decide +kernel
theorem dX11_next_97 : decode cX11_next 97 = .ok (.aload_n 0, 1) := by decide +kernel
theorem dX11_next_98 : decode cX11_next 98 = .ok (.aload_n 0, 1) := by decide +kernel
theorem dX11_next_99 : decode cX11_next 99 = .ok (.getfield 184, 3) := by decide +kernel
theorem dX11_next_102 : decode cX11_next 102 = .ok (.invokevirtual 206, 3) := by decide +kernel
theorem dX11_next_105 : decode cX11_next 105 = .ok (.ifCond .eq 10, 3) := by decide +kernel
theorem dX11_next_108 : decode cX11_next 108 = .ok (.aload_n 0, 1) := by decide +kernel
theorem dX11_next_109 : decode cX11_next 109 = .ok (.invokevirtual 213, 3) := by decide +kernel
theorem dX11_next_112 : decode cX11_next 112 = .ok (.goto 117, 3) := by decide +kernel
theorem dX11_next_115 : decode cX11_next 115 = .ok (.aload_n 0, 1) := by decide +kernel
theorem dX11_next_116 : decode cX11_next 116 = .ok (.aload_n 0, 1) := by decide +kernel
theorem dX11_next_117 : decode cX11_next 117 = .ok (.getfield 180, 3) := by decide +kernel
theorem dX11_next_120 : decode cX11_next 120 = .ok (.aload_n 0, 1) := by decide +kernel
theorem dX11_next_121 : decode cX11_next 121 = .ok (.getfield 184, 3) := by decide +kernel
theorem dX11_next_124 : decode cX11_next 124 = .ok (.baload, 1) := by decide +kernel
theorem dX11_next_125 : decode cX11_next 125 = .ok (.putfield 203, 3) := by decide +kernel
theorem dX11_next_128 : decode cX11_next 128 = .ok (.aload_n 0, 1) := by decide +kernel
theorem dX11_next_129 : decode cX11_next 129 = .ok (.getfield 203, 3) := by decide +kernel
theorem dX11_next_132 : decode cX11_next 132 = .ok (.bipush 40, 2) := by decide +kernel
theorem dX11_next_134 : decode cX11_next 134 = .ok (.if_icmp .eq 66, 3) := by decide +kernel
theorem dX11_next_137 : decode cX11_next 137 = .ok (.aload_n 0, 1) := by decide +kernel
theorem dX11_next_138 : decode cX11_next 138 = .ok (.getfield 203, 3) := by decide +kernel
theorem dX11_next_141 : decode cX11_next 141 = .ok (.bipush 41, 2) := by decide +kernel
theorem dX11_next_143 : decode cX11_next 143 = .ok (.if_icmp .eq 57, 3) := by decide +kernel
theorem dX11_next_146 : decode cX11_next 146 = .ok (.aload_n 0, 1) := by decide +kernel
theorem dX11_next_147 : decode cX11_next 147 = .ok (.getfield 203, 3) := by decide +kernel
theorem dX11_next_150 : decode cX11_next 150 = .ok (.bipush 59, 2) := by decide +kernel
theorem dX11_next_152 : decode cX11_next 152 = .ok (.if_icmp .eq 48, 3) := by decide +kernel
theorem dX11_next_155 : decode cX11_next 155 = .ok (.aload_n 0, 1) := by decide +kernel
theorem dX11_next_156 : decode cX11_next 156 = .ok (.getfield 203, 3) := by decide +kernel
theorem dX11_next_159 : decode cX11_next 159 = .ok (.bipush 43, 2) := by decide +kernel
theorem dX11_next_161 : decode cX11_next 161 = .ok (.if_icmp .eq 39, 3) := by decide +kernel
theorem dX11_next_164 : decode cX11_next 164 = .ok (.aload_n 0, 1) := by decide +kernel
theorem dX11_next_165 : decode cX11_next 165 = .ok (.getfield 203, 3) := by decide +kernel
theorem dX11_next_168 : decode cX11_next 168 = .ok (.bipush 45, 2) := by decide +kernel
theorem dX11_next_170 : decode cX11_next 170 = .ok (.if_icmp .eq 30, 3) := by decide +kernel
theorem dX11_next_173 : decode cX11_next 173 = .ok (.aload_n 0, 1) := by decide +kernel
theorem dX11_next_174 : decode cX11_next 174 = .ok (.getfield 203, 3) := by decide +kernel
theorem dX11_next_177 : decode cX11_next 177 = .ok (.bipush 42, 2) := by decide +kernel
theorem dX11_next_179 : decode cX11_next 179 = .ok (.if_icmp .eq 21, 3) := by decide +kernel
theorem dX11_next_182 : decode cX11_next 182 = .ok (.aload_n 0, 1) := by decide +kernel
theorem dX11_next_183 : decode cX11_next 183 = .ok (.getfield 203, 3) := by decide +kernel
theorem dX11_next_186 : decode cX11_next 186 = .ok (.bipush 60, 2) := by decide +kernel
theorem dX11_next_188 : decode cX11_next 188 = .ok (.if_icmp .eq 12, 3) := by decide +kernel
theorem dX11_next_191 : decode cX11_next 191 = .ok (.aload_n 0, 1) := by decide +kernel
theorem dX11_next_192 : decode cX11_next 192 = .ok (.getfield 203, 3) := by decide +kernel
theorem dX11_next_195 : decode cX11_next 195 = .ok (.bipush 61, 2) := by decide +kernel
theorem dX11_next_197 : decode cX11_next 197 = .ok (.if_icmp .ne 7, 3) := by decide +kernel
theorem dX11_next_200 : decode cX11_next 200 = .ok (.iconst 1, 1) := by decide +kernel
theorem dX11_next_201 : decode cX11_next 201 = .ok (.goto 4, 3) := by decide +kernel
theorem dX11_next_204 : decode cX11_next 204 = .ok (.iconst 0, 1) := by decide +kernel
theorem dX11_next_205 : decode cX11_next 205 = .ok (.istore_n 1, 1) := by decide +kernel
theorem dX11_next_206 : decode cX11_next 206 = .ok (.aload_n 0, 1) := by decide +kernel
theorem dX11_next_207 : decode cX11_next 207 = .ok (.iload_n 1, 1) := by decide +kernel
theorem dX11_next_208 : decode cX11_next 208 = .ok (.ifCond .eq 7, 3) := by decide +kernel
theorem dX11_next_211 : decode cX11_next 211 = .ok (.iconst 3, 1) := by decide +kernel
theorem dX11_next_212 : decode cX11_next 212 = .ok (.goto 4, 3) := by decide +kernel
theorem dX11_next_215 : decode cX11_next 215 = .ok (.iconst 5, 1) := by decide +kernel
theorem dX11_next_216 : decode cX11_next 216 = .ok (.putfield 190, 3) := by decide +kernel
theorem dX11_next_219 : decode cX11_next 219 = .ok (.aload_n 0, 1) := by decide +kernel
theorem dX11_next_220 : decode cX11_next 220 = .ok (.dup, 1) := by decide +kernel
theorem dX11_next_221 : decode cX11_next 221 = .ok (.getfield 184, 3) := by decide +kernel
theorem dX11_next_224 : decode cX11_next 224 = .ok (.iconst 1, 1) := by decide +kernel
theorem dX11_next_225 : decode cX11_next 225 = .ok (.iadd, 1) := by decide +kernel
theorem dX11_next_226 : decode cX11_next 226 = .ok (.putfield 184, 3) := by decide +kernel
theorem dX11_next_229 : decode cX11_next 229 = .ok (.return_, 1) := by decide +kernel
theorem dX11_isSign_0 : decode cX11_isSign 0 = .ok (.aload_n 0, 1) := by decide +kernel
theorem dX11_isSign_1 : decode cX11_isSign 1 = .ok (.getfield 190, 3) := by decide +kernel
theorem dX11_isSign_4 : decode cX11_isSign 4 = .ok (.iconst 3, 1) := by decide +kernel
theorem dX11_isSign_5 : decode cX11_isSign 5 = .ok (.if_icmp .ne 15, 3) := by decide +kernel
theorem dX11_isSign_8 : decode cX11_isSign 8 = .ok (.aload_n 0, 1) := by decide +kernel
theorem dX11_isSign_9 : decode cX11_isSign 9 = .ok (.getfield 203, 3) := by decide +kernel
theorem dX11_isSign_12 : decode cX11_isSign 12 = .ok (.iload_n 1, 1) := by decide +kernel
theorem dX11_isSign_13 : decode cX11_isSign 13 = .ok (.if_icmp .ne 7, 3) := by decide +kernel
theorem dX11_isSign_16 : decode cX11_isSign 16 = .ok (.iconst 1, 1) := by decide +kernel
theorem dX11_isSign_17 : decode cX11_isSign 17 = .ok (.goto 4, 3) := by decide +kernel
theorem dX11_isSign_20 : decode cX11_isSign 20 = .ok (.iconst 0, 1) := by decide +kernel
theorem dX11_isSign_21 : decode cX11_isSign 21 = .ok (.ireturn, 1) := by decide +kernel
theorem dX11_isKey_0 : decode cX11_isKey 0 = .ok (.aload_n 0, 1) := by decide +kernel
theorem dX11_isKey_1 : decode cX11_isKey 1 = .ok (.getfield 190, 3) := by decide +kernel
theorem dX11_isKey_4 : decode cX11_isKey 4 = .ok (.iconst 4, 1) := by decide +kernel
theorem dX11_isKey_5 : decode cX11_isKey 5 = .ok (.if_icmp .ne 15, 3) := by decide +kernel
theorem dX11_isKey_8 : decode cX11_isKey 8 = .ok (.aload_n 0, 1) := by decide +kernel
theorem dX11_isKey_9 : decode cX11_isKey 9 = .ok (.getfield 203, 3) := by decide +kernel
theorem dX11_isKey_12 : decode cX11_isKey 12 = .ok (.iload_n 1, 1) := by decide +kernel
theorem dX11_isKey_13 : decode cX11_isKey 13 = .ok (.if_icmp .ne 7, 3) := by decide +kernel
theorem dX11_isKey_16 : decode cX11_isKey 16 = .ok (.iconst 1, 1) := by decide +kernel
theorem dX11_isKey_17 : decode cX11_isKey 17 = .ok (.goto 4, 3) := by decide +kernel
theorem dX11_isKey_20 : decode cX11_isKey 20 = .ok (.iconst 0, 1) := by decide +kernel
theorem dX11_isKey_21 : decode cX11_isKey 21 = .ok (.ireturn, 1) := by decide +kernel
theorem dX11_emit_0 : decode cX11_emit 0 = .ok (.aload_n 0, 1) := by decide +kernel
theorem dX11_emit_1 : decode cX11_emit 1 = .ok (.getfield 216, 3) := by decide +kernel
theorem dX11_emit_4 : decode cX11_emit 4 = .ok (.aload_n 0, 1) := by decide +kernel
theorem dX11_emit_5 : decode cX11_emit 5 = .ok (.getfield 219, 3) := by decide +kernel
theorem dX11_emit_8 : decode cX11_emit 8 = .ok (.aload_n 0, 1) := by decide +kernel
theorem dX11_emit_9 : decode cX11_emit 9 = .ok (.getfield 222, 3) := by decide +kernel
theorem dX11_emit_12 : decode cX11_emit 12 = .ok (.iadd, 1) := by decide +kernel
theorem dX11_emit_13 : decode cX11_emit 13 = .ok (.iload_n 1, 1) := by decide +kernel
theorem dX11_emit_14 : decode cX11_emit 14 = .ok (.iastore, 1) := by decide +kernel
theorem dX11_emit_15 : decode cX11_emit 15 = .ok (.aload_n 0, 1) := by decide +kernel
theorem dX11_emit_16 : decode cX11_emit 16 = .ok (.dup, 1) := by decide +kernel
theorem dX11_emit_17 : decode cX11_emit 17 = .ok (.getfield 222, 3) := by decide +kernel
theorem dX11_emit_20 : decode cX11_emit 20 = .ok (.iconst 1, 1) := by decide +kernel
theorem dX11_emit_21 : decode cX11_emit 21 = .ok (.iadd, 1) := by decide +kernel
theorem dX11_emit_22 : decode cX11_emit 22 = .ok (.putfield 222, 3) := by decide +kernel
theorem dX11_emit_25 : decode cX11_emit 25 = .ok (.return_, 1) := by decide +kernel
theorem dX11_rank_0 : decode cX11_rank 0 = .ok (.iload_n 0, 1) := by decide +kernel
theorem dX11_rank_1 : decode cX11_rank 1 = .ok (.bipush 12, 2) := by decide +kernel
theorem dX11_rank_3 : decode cX11_rank 3 = .ok (.if_icmp .ne 7, 3) := by decide +kernel
theorem dX11_rank_6 : decode cX11_rank 6 = .ok (.iconst 1, 1) := by decide +kernel
theorem dX11_rank_7 : decode cX11_rank 7 = .ok (.goto 78, 3) := by decide +kernel
theorem dX11_rank_10 : decode cX11_rank 10 = .ok (.iload_n 0, 1) := by decide +kernel
theorem dX11_rank_11 : decode cX11_rank 11 = .ok (.bipush 11, 2) := by decide +kernel
theorem dX11_rank_13 : decode cX11_rank 13 = .ok (.if_icmp .ne 7, 3) := by decide +kernel
theorem dX11_rank_16 : decode cX11_rank 16 = .ok (.iconst 2, 1) := by decide +kernel
theorem dX11_rank_17 : decode cX11_rank 17 = .ok (.goto 68, 3) := by decide +kernel
theorem dX11_rank_20 : decode cX11_rank 20 = .ok (.iload_n 0, 1) := by decide +kernel
theorem dX11_rank_21 : decode cX11_rank 21 = .ok (.bipush 13, 2) := by decide +kernel
theorem dX11_rank_23 : decode cX11_rank 23 = .ok (.if_icmp .ne 7, 3) := by decide +kernel
theorem dX11_rank_26 : decode cX11_rank 26 = .ok (.iconst 3, 1) := by decide +kernel
theorem dX11_rank_27 : decode cX11_rank 27 = .ok (.goto 58, 3) := by decide +kernel
theorem dX11_rank_30 : decode cX11_rank 30 = .ok (.iload_n 0, 1) := by decide +kernel
theorem dX11_rank_31 : decode cX11_rank 31 = .ok (.bipush 9, 2) := by decide +kernel
theorem dX11_rank_33 : decode cX11_rank 33 = .ok (.if_icmp .eq 9, 3) := by decide +kernel
theorem dX11_rank_36 : decode cX11_rank 36 = .ok (.iload_n 0, 1) := by decide +kernel
theorem dX11_rank_37 : decode cX11_rank 37 = .ok (.bipush 10, 2) := by decide +kernel
theorem dX11_rank_39 : decode cX11_rank 39 = .ok (.if_icmp .ne 7, 3) := by decide +kernel
theorem dX11_rank_42 : decode cX11_rank 42 = .ok (.iconst 4, 1) := by decide +kernel
theorem dX11_rank_43 : decode cX11_rank 43 = .ok (.goto 42, 3) := by decide +kernel
theorem dX11_rank_46 : decode cX11_rank 46 = .ok (.iload_n 0, 1) := by decide +kernel
theorem dX11_rank_47 : decode cX11_rank 47 = .ok (.bipush 6, 2) := by decide +kernel
theorem dX11_rank_49 : decode cX11_rank 49 = .ok (.if_icmp .eq 9, 3) := by decide +kernel
theorem dX11_rank_52 : decode cX11_rank 52 = .ok (.iload_n 0, 1) := by decide +kernel
theorem dX11_rank_53 : decode cX11_rank 53 = .ok (.bipush 7, 2) := by decide +kernel
theorem dX11_rank_55 : decode cX11_rank 55 = .ok (.if_icmp .ne 7, 3) := by decide +kernel
theorem dX11_rank_58 : decode cX11_rank 58 = .ok (.iconst 5, 1) := by decide +kernel
theorem dX11_rank_59 : decode cX11_rank 59 = .ok (.goto 26, 3) := by decide +kernel
theorem dX11_rank_62 : decode cX11_rank 62 = .ok (.iload_n 0, 1) := by decide +kernel
theorem dX11_rank_63 : decode cX11_rank 63 = .ok (.bipush 8, 2) := by decide +kernel
theorem dX11_rank_65 : decode cX11_rank 65 = .ok (.if_icmp .ne 8, 3) := by decide +kernel
theorem dX11_rank_68 : decode cX11_rank 68 = .ok (.bipush 6, 2) := by decide +kernel
theorem dX11_rank_70 : decode cX11_rank 70 = .ok (.goto 15, 3) := by decide +kernel
theorem dX11_rank_73 : decode cX11_rank 73 = .ok (.iload_n 0, 1) := by decide +kernel
theorem dX11_rank_74 : decode cX11_rank 74 = .ok (.bipush 14, 2) := by decide +kernel
theorem dX11_rank_76 : decode cX11_rank 76 = .ok (.if_icmp .ne 8, 3) := by decide +kernel
theorem dX11_rank_79 : decode cX11_rank 79 = .ok (.bipush 7, 2) := by decide +kernel
theorem dX11_rank_81 : decode cX11_rank 81 = .ok (.goto 4, 3) := by decide +kernel
theorem dX11_rank_84 : decode cX11_rank 84 = .ok (.iconst 0, 1) := by decide +kernel
theorem dX11_rank_85 : decode cX11_rank 85 = .ok (.ireturn, 1) := by decide +kernel
theorem dX11_doAll_0 : decode cX11_doAll 0 = .ok (.aload_n 0, 1) := by decide +kernel
theorem dX11_doAll_1 : decode cX11_doAll 1 = .ok (.getfield 225, 3) := by decide +kernel
theorem dX11_doAll_4 : decode cX11_doAll 4 = .ok (.ifCond .le 105, 3) := by decide +kernel
theorem dX11_doAll_7 : decode cX11_doAll 7 = .ok (.aload_n 0, 1) := by decide +kernel
theorem dX11_doAll_8 : decode cX11_doAll 8 = .ok (.getfield 228, 3) := by decide +kernel
theorem dX11_doAll_11 : decode cX11_doAll 11 = .ok (.aload_n 0, 1) := by decide +kernel
theorem dX11_doAll_12 : decode cX11_doAll 12 = .ok (.getfield 225, 3) := by decide +kernel
theorem dX11_doAll_15 : decode cX11_doAll 15 = .ok (.iconst 1, 1) := by decide +kernel
theorem dX11_doAll_16 : decode cX11_doAll 16 = .ok (.isub, 1) := by decide +kernel
theorem dX11_doAll_17 : decode cX11_doAll 17 = .ok (.iaload, 1) := by decide +kernel
theorem dX11_doAll_18 : decode cX11_doAll 18 = .ok (.bipush 15, 2) := by decide +kernel
theorem dX11_doAll_20 : decode cX11_doAll 20 = .ok (.if_icmp .eq 89, 3) := by decide +kernel
theorem dX11_doAll_23 : decode cX11_doAll 23 = .ok (.aload_n 0, 1) := by decide +kernel
theorem dX11_doAll_24 : decode cX11_doAll 24 = .ok (.getfield 228, 3) := by decide +kernel
theorem dX11_doAll_27 : decode cX11_doAll 27 = .ok (.aload_n 0, 1) := by decide +kernel
theorem dX11_doAll_28 : decode cX11_doAll 28 = .ok (.getfield 225, 3) := by decide +kernel
theorem dX11_doAll_31 : decode cX11_doAll 31 = .ok (.iconst 1, 1) := by decide +kernel
theorem dX11_doAll_32 : decode cX11_doAll 32 = .ok (.isub, 1) := by decide +kernel
theorem dX11_doAll_33 : decode cX11_doAll 33 = .ok (.iaload, 1) := by decide +kernel
theorem dX11_doAll_34 : decode cX11_doAll 34 = .ok (.invokestatic 231, 3) := by decide +kernel
theorem dX11_doAll_37 : decode cX11_doAll 37 = .ok (.iload_n 1, 1) := by decide +kernel
theorem dX11_doAll_38 : decode cX11_doAll 38 = .ok (.if_icmp .lt 71, 3) := by decide +kernel
theorem dX11_doAll_41 : decode cX11_doAll 41 = .ok (.aload_n 0, 1) := by decide +kernel
theorem dX11_doAll_42 : decode cX11_doAll 42 = .ok (.dup, 1) := by decide +kernel
theorem dX11_doAll_43 : decode cX11_doAll 43 = .ok (.getfield 225, 3) := by decide +kernel
theorem dX11_doAll_46 : decode cX11_doAll 46 = .ok (.iconst 1, 1) := by decide +kernel
theorem dX11_doAll_47 : decode cX11_doAll 47 = .ok (.isub, 1) := by decide +kernel
theorem dX11_doAll_48 : decode cX11_doAll 48 = .ok (.putfield 225, 3) := by decide +kernel
theorem dX11_doAll_51 : decode cX11_doAll 51 = .ok (.aload_n 0, 1) := by decide +kernel
theorem dX11_doAll_52 : decode cX11_doAll 52 = .ok (.dup, 1) := by decide +kernel
theorem dX11_doAll_53 : decode cX11_doAll 53 = .ok (.getfield 234, 3) := by decide +kernel
theorem dX11_doAll_56 : decode cX11_doAll 56 = .ok (.aload_n 0, 1) := by decide +kernel
theorem dX11_doAll_57 : decode cX11_doAll 57 = .ok (.getfield 228, 3) := by decide +kernel
theorem dX11_doAll_60 : decode cX11_doAll 60 = .ok (.aload_n 0, 1) := by decide +kernel
theorem dX11_doAll_61 : decode cX11_doAll 61 = .ok (.getfield 225, 3) := by decide +kernel
theorem dX11_doAll_64 : decode cX11_doAll 64 = .ok (.iaload, 1) := by decide +kernel
theorem dX11_doAll_65 : decode cX11_doAll 65 = .ok (.bipush 13, 2) := by decide +kernel
theorem dX11_doAll_67 : decode cX11_doAll 67 = .ok (.if_icmp .eq 17, 3) := by decide +kernel
theorem dX11_doAll_70 : decode cX11_doAll 70 = .ok (.aload_n 0, 1) := by decide +kernel
theorem dX11_doAll_71 : decode cX11_doAll 71 = .ok (.getfield 228, 3) := by decide +kernel
theorem dX11_doAll_74 : decode cX11_doAll 74 = .ok (.aload_n 0, 1) := by decide +kernel
theorem dX11_doAll_75 : decode cX11_doAll 75 = .ok (.getfield 225, 3) := by decide +kernel
theorem dX11_doAll_78 : decode cX11_doAll 78 = .ok (.iaload, 1) := by decide +kernel
theorem dX11_doAll_79 : decode cX11_doAll 79 = .ok (.bipush 14, 2) := by decide +kernel
theorem dX11_doAll_81 : decode cX11_doAll 81 = .ok (.if_icmp .ne 7, 3) := by decide +kernel
theorem dX11_doAll_84 : decode cX11_doAll 84 = .ok (.iconst 1, 1) := by decide +kernel
theorem dX11_doAll_85 : decode cX11_doAll 85 = .ok (.goto 4, 3) := by decide +kernel
theorem dX11_doAll_88 : decode cX11_doAll 88 = .ok (.iconst 0, 1) := by decide +kernel
theorem dX11_doAll_89 : decode cX11_doAll 89 = .ok (.isub, 1) := by decide +kernel
theorem dX11_doAll_90 : decode cX11_doAll 90 = .ok (.putfield 234, 3) := by decide +kernel
theorem dX11_doAll_93 : decode cX11_doAll 93 = .ok (.aload_n 0, 1) := by decide +kernel
theorem dX11_doAll_94 : decode cX11_doAll 94 = .ok (.aload_n 0, 1) := by decide +kernel
theorem dX11_doAll_95 : decode cX11_doAll 95 = .ok (.getfield 228, 3) := by decide +kernel
theorem dX11_doAll_98 : decode cX11_doAll 98 = .ok (.aload_n 0, 1) := by decide +kernel
theorem dX11_doAll_99 : decode cX11_doAll 99 = .ok (.getfield 225, 3) := by decide +kernel
theorem dX11_doAll_102 : decode cX11_doAll 102 = .ok (.iaload, 1) := by decide +kernel
theorem dX11_doAll_103 : decode cX11_doAll 103 = .ok (.invokevirtual 237, 3) := by decide +kernel
theorem dX11_doAll_106 : decode cX11_doAll 106 = .ok (.goto (-106), 3) := by decide +kernel
theorem dX11_doAll_109 : decode cX11_doAll 109 = .ok (.return_, 1) := by decide +kernel
theorem dX11_await_0 : decode cX11_await 0 = .ok (.aload_n 0, 1) := by decide +kernel
theorem dX11_await_1 : decode cX11_await 1 = .ok (.getfield 228, 3) := by decide +kernel
theorem dX11_await_4 : decode cX11_await 4 = .ok (.aload_n 0, 1) := by decide +kernel
theorem dX11_await_5 : decode cX11_await 5 = .ok (.getfield 225, 3) := by decide +kernel
theorem dX11_await_8 : decode cX11_await 8 = .ok (.iload_n 1, 1) := by decide +kernel
theorem dX11_await_9 : decode cX11_await 9 = .ok (.iastore, 1) := by decide +kernel
theorem dX11_await_10 : decode cX11_await 10 = .ok (.aload_n 0, 1) := by decide +kernel
theorem dX11_await_11 : decode cX11_await 11 = .ok (.dup, 1) := by decide +kernel
theorem dX11_await_12 : decode cX11_await 12 = .ok (.getfield 225, 3) := by decide +kernel
theorem dX11_await_15 : decode cX11_await 15 = .ok (.iconst 1, 1) := by decide +kernel
theorem dX11_await_16 : decode cX11_await 16 = .ok (.iadd, 1) := by decide +kernel
theorem dX11_await_17 : decode cX11_await 17 = .ok (.putfield 225, 3) := by decide +kernel
theorem dX11_await_20 : decode cX11_await 20 = .ok (.return_, 1) := by decide +kernel
theorem dX11_between_0 : decode cX11_between 0 = .ok (.aload_n 0, 1) := by decide +kernel
theorem dX11_between_1 : decode cX11_between 1 = .ok (.bipush 43, 2) := by decide +kernel
theorem dX11_between_3 : decode cX11_between 3 = .ok (.invokevirtual 241, 3) := by decide +kernel
theorem dX11_between_6 : decode cX11_between 6 = .ok (.ifCond .eq 8, 3) := by decide +kernel
theorem dX11_between_9 : decode cX11_between 9 = .ok (.bipush 6, 2) := by decide +kernel
theorem dX11_between_11 : decode cX11_between 11 = .ok (.goto 86, 3) := by decide +kernel
theorem dX11_between_14 : decode cX11_between 14 = .ok (.aload_n 0, 1) := by decide +kernel
theorem dX11_between_15 : decode cX11_between 15 = .ok (.bipush 45, 2) := by decide +kernel
theorem dX11_between_17 : decode cX11_between 17 = .ok (.invokevirtual 241, 3) := by decide +kernel
theorem dX11_between_20 : decode cX11_between 20 = .ok (.ifCond .eq 8, 3) := by decide +kernel
theorem dX11_between_23 : decode cX11_between 23 = .ok (.bipush 7, 2) := by decide +kernel
theorem dX11_between_25 : decode cX11_between 25 = .ok (.goto 72, 3) := by decide +kernel
theorem dX11_between_28 : decode cX11_between 28 = .ok (.aload_n 0, 1) := by decide +kernel
theorem dX11_between_29 : decode cX11_between 29 = .ok (.bipush 42, 2) := by decide +kernel
theorem dX11_between_31 : decode cX11_between 31 = .ok (.invokevirtual 241, 3) := by decide +kernel
theorem dX11_between_34 : decode cX11_between 34 = .ok (.ifCond .eq 8, 3) := by decide +kernel
theorem dX11_between_37 : decode cX11_between 37 = .ok (.bipush 8, 2) := by decide +kernel
theorem dX11_between_39 : decode cX11_between 39 = .ok (.goto 58, 3) := by decide +kernel
theorem dX11_between_42 : decode cX11_between 42 = .ok (.aload_n 0, 1) := by decide +kernel
theorem dX11_between_43 : decode cX11_between 43 = .ok (.bipush 60, 2) := by decide +kernel
theorem dX11_between_45 : decode cX11_between 45 = .ok (.invokevirtual 241, 3) := by decide +kernel
theorem dX11_between_48 : decode cX11_between 48 = .ok (.ifCond .eq 8, 3) := by decide +kernel
theorem dX11_between_51 : decode cX11_between 51 = .ok (.bipush 9, 2) := by decide +kernel
theorem dX11_between_53 : decode cX11_between 53 = .ok (.goto 44, 3) := by decide +kernel
theorem dX11_between_56 : decode cX11_between 56 = .ok (.aload_n 0, 1) := by decide +kernel
theorem dX11_between_57 : decode cX11_between 57 = .ok (.bipush 61, 2) := by decide +kernel
theorem dX11_between_59 : decode cX11_between 59 = .ok (.invokevirtual 241, 3) := by decide +kernel
theorem dX11_between_62 : decode cX11_between 62 = .ok (.ifCond .eq 8, 3) := by decide +kernel
theorem dX11_between_65 : decode cX11_between 65 = .ok (.bipush 10, 2) := by decide +kernel
theorem dX11_between_67 : decode cX11_between 67 = .ok (.goto 30, 3) := by decide +kernel
theorem dX11_between_70 : decode cX11_between 70 = .ok (.aload_n 0, 1) := by decide +kernel
theorem dX11_between_71 : decode cX11_between 71 = .ok (.iconst 3, 1) := by decide +kernel
theorem dX11_between_72 : decode cX11_between 72 = .ok (.invokevirtual 244, 3) := by decide +kernel
theorem dX11_between_75 : decode cX11_between 75 = .ok (.ifCond .eq 8, 3) := by decide +kernel
theorem dX11_between_78 : decode cX11_between 78 = .ok (.bipush 11, 2) := by decide +kernel
theorem dX11_between_80 : decode cX11_between 80 = .ok (.goto 17, 3) := by decide +kernel
theorem dX11_between_83 : decode cX11_between 83 = .ok (.aload_n 0, 1) := by decide +kernel
theorem dX11_between_84 : decode cX11_between 84 = .ok (.iconst 2, 1) := by decide +kernel
theorem dX11_between_85 : decode cX11_between 85 = .ok (.invokevirtual 244, 3) := by decide +kernel
theorem dX11_between_88 : decode cX11_between 88 = .ok (.ifCond .eq 8, 3) := by decide +kernel
theorem dX11_between_91 : decode cX11_between 91 = .ok (.bipush 12, 2) := by decide +kernel
theorem dX11_between_93 : decode cX11_between 93 = .ok (.goto 4, 3) := by decide +kernel
theorem dX11_between_96 : decode cX11_between 96 = .ok (.iconst (-1), 1) := by decide +kernel
theorem dX11_between_97 : decode cX11_between 97 = .ok (.istore_n 1, 1) := by decide +kernel
theorem dX11_between_98 : decode cX11_between 98 = .ok (.iload_n 1, 1) := by decide +kernel
theorem dX11_between_99 : decode cX11_between 99 = .ok (.iconst (-1), 1) := by decide +kernel
theorem dX11_between_100 : decode cX11_between 100 = .ok (.if_icmp .eq 23, 3) := by decide +kernel
theorem dX11_between_103 : decode cX11_between 103 = .ok (.iload_n 1, 1) := by decide +kernel
theorem dX11_between_104 : decode cX11_between 104 = .ok (.invokestatic 231, 3) := by decide +kernel
theorem dX11_between_107 : decode cX11_between 107 = .ok (.iconst 4, 1) := by decide +kernel
theorem dX11_between_108 : decode cX11_between 108 = .ok (.if_icmp .ne 17, 3) := by decide +kernel
theorem dX11_between_111 : decode cX11_between 111 = .ok (.aload_n 0, 1) := by decide +kernel
theorem dX11_between_112 : decode cX11_between 112 = .ok (.getfield 247, 3) := by decide +kernel
theorem dX11_between_115 : decode cX11_between 115 = .ok (.aload_n 0, 1) := by decide +kernel
theorem dX11_between_116 : decode cX11_between 116 = .ok (.getfield 251, 3) := by decide +kernel
theorem dX11_between_119 : decode cX11_between 119 = .ok (.baload, 1) := by decide +kernel
theorem dX11_between_120 : decode cX11_between 120 = .ok (.ifCond .eq 5, 3) := by decide +kernel
theorem dX11_between_123 : decode cX11_between 123 = .ok (.iconst 0, 1) := by decide +kernel
theorem dX11_between_124 : decode cX11_between 124 = .ok (.ireturn, 1) := by decide +kernel
theorem dX11_between_125 : decode cX11_between 125 = .ok (.aload_n 0, 1) := by decide +kernel
theorem dX11_between_126 : decode cX11_between 126 = .ok (.iload_n 1, 1) := by decide +kernel
theorem dX11_between_127 : decode cX11_between 127 = .ok (.invokestatic 231, 3) := by decide +kernel
theorem dX11_between_130 : decode cX11_between 130 = .ok (.invokevirtual 254, 3) := by decide +kernel
theorem dX11_between_133 : decode cX11_between 133 = .ok (.aload_n 0, 1) := by decide +kernel
theorem dX11_between_134 : decode cX11_between 134 = .ok (.iload_n 1, 1) := by decide +kernel
theorem dX11_between_135 : decode cX11_between 135 = .ok (.invokevirtual 257, 3) := by decide +kernel
theorem dX11_between_138 : decode cX11_between 138 = .ok (.aload_n 0, 1) := by decide +kernel
theorem dX11_between_139 : decode cX11_between 139 = .ok (.getfield 247, 3) := by decide +kernel
theorem dX11_between_142 : decode cX11_between 142 = .ok (.aload_n 0, 1) := by decide +kernel
theorem dX11_between_143 : decode cX11_between 143 = .ok (.getfield 251, 3) := by decide +kernel
theorem dX11_between_146 : decode cX11_between 146 = .ok (.iload_n 1, 1) := by decide +kernel
theorem dX11_between_147 : decode cX11_between 147 = .ok (.invokestatic 231, 3) := by decide +kernel
theorem dX11_between_150 : decode cX11_between 150 = .ok (.iconst 4, 1) := by decide +kernel
theorem dX11_between_151 : decode cX11_between 151 = .ok (.if_icmp .eq 23, 3) := by decide +kernel
theorem dX11_between_154 : decode cX11_between 154 = .ok (.iload_n 1, 1) := by decide +kernel
theorem dX11_between_155 : decode cX11_between 155 = .ok (.invokestatic 231, 3) := by decide +kernel
theorem dX11_between_158 : decode cX11_between 158 = .ok (.iconst 4, 1) := by decide +kernel
theorem dX11_between_159 : decode cX11_between 159 = .ok (.if_icmp .le 19, 3) := by decide +kernel
theorem dX11_between_162 : decode cX11_between 162 = .ok (.aload_n 0, 1) := by decide +kernel
theorem dX11_between_163 : decode cX11_between 163 = .ok (.getfield 247, 3) := by decide +kernel
theorem dX11_between_166 : decode cX11_between 166 = .ok (.aload_n 0, 1) := by decide +kernel
theorem dX11_between_167 : decode cX11_between 167 = .ok (.getfield 251, 3) := by decide +kernel
theorem dX11_between_170 : decode cX11_between 170 = .ok (.baload, 1) := by decide +kernel
theorem dX11_between_171 : decode cX11_between 171 = .ok (.ifCond .eq 7, 3) := by decide +kernel
theorem dX11_between_174 : decode cX11_between 174 = .ok (.iconst 1, 1) := by decide +kernel
theorem dX11_between_175 : decode cX11_between 175 = .ok (.goto 4, 3) := by decide +kernel
theorem dX11_between_178 : decode cX11_between 178 = .ok (.iconst 0, 1) := by decide +kernel
theorem dX11_between_179 : decode cX11_between 179 = .ok (.bastore, 1) := by decide +kernel
theorem dX11_between_180 : decode cX11_between 180 = .ok (.iconst 1, 1) := by decide +kernel
theorem dX11_between_181 : decode cX11_between 181 = .ok (.ireturn, 1) := by decide +kernel
theorem dX11_closes_0 : decode cX11_closes 0 = .ok (.aload_n 0, 1) := by decide +kernel
theorem dX11_closes_1 : decode cX11_closes 1 = .ok (.bipush 41, 2) := by decide +kernel
theorem dX11_closes_3 : decode cX11_closes 3 = .ok (.invokevirtual 241, 3) := by decide +kernel
theorem dX11_closes_6 : decode cX11_closes 6 = .ok (.ifCond .eq 10, 3) := by decide +kernel
theorem dX11_closes_9 : decode cX11_closes 9 = .ok (.aload_n 0, 1) := by decide +kernel
theorem dX11_closes_10 : decode cX11_closes 10 = .ok (.getfield 251, 3) := by decide +kernel
theorem dX11_closes_13 : decode cX11_closes 13 = .ok (.ifCond .ne 5, 3) := by decide +kernel
theorem dX11_closes_16 : decode cX11_closes 16 = .ok (.iconst 0, 1) := by decide +kernel
theorem dX11_closes_17 : decode cX11_closes 17 = .ok (.ireturn, 1) := by decide +kernel
theorem dX11_closes_18 : decode cX11_closes 18 = .ok (.aload_n 0, 1) := by decide +kernel
theorem dX11_closes_19 : decode cX11_closes 19 = .ok (.iconst 1, 1) := by decide +kernel
theorem dX11_closes_20 : decode cX11_closes 20 = .ok (.invokevirtual 254, 3) := by decide +kernel
theorem dX11_closes_23 : decode cX11_closes 23 = .ok (.aload_n 0, 1) := by decide +kernel
theorem dX11_closes_24 : decode cX11_closes 24 = .ok (.dup, 1) := by decide +kernel
theorem dX11_closes_25 : decode cX11_closes 25 = .ok (.getfield 225, 3) := by decide +kernel
theorem dX11_closes_28 : decode cX11_closes 28 = .ok (.iconst 1, 1) := by decide +kernel
theorem dX11_closes_29 : decode cX11_closes 29 = .ok (.isub, 1) := by decide +kernel
theorem dX11_closes_30 : decode cX11_closes 30 = .ok (.putfield 225, 3) := by decide +kernel
theorem dX11_closes_33 : decode cX11_closes 33 = .ok (.aload_n 0, 1) := by decide +kernel
theorem dX11_closes_34 : decode cX11_closes 34 = .ok (.dup, 1) := by decide +kernel
theorem dX11_closes_35 : decode cX11_closes 35 = .ok (.getfield 251, 3) := by decide +kernel
theorem dX11_closes_38 : decode cX11_closes 38 = .ok (.iconst 1, 1) := by decide +kernel
theorem dX11_closes_39 : decode cX11_closes 39 = .ok (.isub, 1) := by decide +kernel
theorem dX11_closes_40 : decode cX11_closes 40 = .ok (.putfield 251, 3) := by decide +kernel
theorem dX11_closes_43 : decode cX11_closes 43 = .ok (.aload_n 0, 1) := by decide +kernel
theorem dX11_closes_44 : decode cX11_closes 44 = .ok (.dup, 1) := by decide +kernel
theorem dX11_closes_45 : decode cX11_closes 45 = .ok (.getfield 234, 3) := by decide +kernel
theorem dX11_closes_48 : decode cX11_closes 48 = .ok (.iconst 1, 1) := by decide +kernel
theorem dX11_closes_49 : decode cX11_closes 49 = .ok (.isub, 1) := by decide +kernel
theorem dX11_closes_50 : decode cX11_closes 50 = .ok (.putfield 234, 3) := by decide +kernel
theorem dX11_closes_53 : decode cX11_closes 53 = .ok (.aload_n 0, 1) := by decide +kernel
theorem dX11_closes_54 : decode cX11_closes 54 = .ok (.bipush 7, 2) := by decide +kernel
theorem dX11_closes_56 : decode cX11_closes 56 = .ok (.invokevirtual 254, 3) := by decide +kernel
theorem dX11_closes_59 : decode cX11_closes 59 = .ok (.iconst 1, 1) := by decide +kernel
theorem dX11_closes_60 : decode cX11_closes 60 = .ok (.ireturn, 1) := by decide +kernel
theorem dX11_ahead_0 : decode cX11_ahead 0 = .ok (.aload_n 0, 1) := by decide +kernel
theorem dX11_ahead_1 : decode cX11_ahead 1 = .ok (.bipush 40, 2) := by decide +kernel
theorem dX11_ahead_3 : decode cX11_ahead 3 = .ok (.invokevirtual 241, 3) := by decide +kernel
theorem dX11_ahead_6 : decode cX11_ahead 6 = .ok (.ifCond .ne 24, 3) := by decide +kernel
theorem dX11_ahead_9 : decode cX11_ahead 9 = .ok (.aload_n 0, 1) := by decide +kernel
theorem dX11_ahead_10 : decode cX11_ahead 10 = .ok (.bipush 45, 2) := by decide +kernel
theorem dX11_ahead_12 : decode cX11_ahead 12 = .ok (.invokevirtual 241, 3) := by decide +kernel
theorem dX11_ahead_15 : decode cX11_ahead 15 = .ok (.ifCond .ne 15, 3) := by decide +kernel
theorem dX11_ahead_18 : decode cX11_ahead 18 = .ok (.iload_n 1, 1) := by decide +kernel
theorem dX11_ahead_19 : decode cX11_ahead 19 = .ok (.ifCond .eq 15, 3) := by decide +kernel
theorem dX11_ahead_22 : decode cX11_ahead 22 = .ok (.aload_n 0, 1) := by decide +kernel
theorem dX11_ahead_23 : decode cX11_ahead 23 = .ok (.iconst 4, 1) := by decide +kernel
theorem dX11_ahead_24 : decode cX11_ahead 24 = .ok (.invokevirtual 244, 3) := by decide +kernel
theorem dX11_ahead_27 : decode cX11_ahead 27 = .ok (.ifCond .eq 7, 3) := by decide +kernel
theorem dX11_ahead_30 : decode cX11_ahead 30 = .ok (.iconst 1, 1) := by decide +kernel
theorem dX11_ahead_31 : decode cX11_ahead 31 = .ok (.goto 4, 3) := by decide +kernel
theorem dX11_ahead_34 : decode cX11_ahead 34 = .ok (.iconst 0, 1) := by decide +kernel
theorem dX11_ahead_35 : decode cX11_ahead 35 = .ok (.istore_n 2, 1) := by decide +kernel
theorem dX11_ahead_36 : decode cX11_ahead 36 = .ok (.iload_n 2, 1) := by decide +kernel
theorem dX11_ahead_37 : decode cX11_ahead 37 = .ok (.ifCond .eq 11, 3) := by decide +kernel
theorem dX11_ahead_40 : decode cX11_ahead 40 = .ok (.aload_n 0, 1) := by decide +kernel
theorem dX11_ahead_41 : decode cX11_ahead 41 = .ok (.getfield 234, 3) := by decide +kernel
theorem dX11_ahead_44 : decode cX11_ahead 44 = .ok (.iconst 5, 1) := by decide +kernel
theorem dX11_ahead_45 : decode cX11_ahead 45 = .ok (.if_icmp .ne 5, 3) := by decide +kernel
theorem dX11_ahead_48 : decode cX11_ahead 48 = .ok (.iconst 0, 1) := by decide +kernel
theorem dX11_ahead_49 : decode cX11_ahead 49 = .ok (.ireturn, 1) := by decide +kernel
theorem dX11_ahead_50 : decode cX11_ahead 50 = .ok (.aload_n 0, 1) := by decide +kernel
theorem dX11_ahead_51 : decode cX11_ahead 51 = .ok (.dup, 1) := by decide +kernel
theorem dX11_ahead_52 : decode cX11_ahead 52 = .ok (.getfield 234, 3) := by decide +kernel
theorem dX11_ahead_55 : decode cX11_ahead 55 = .ok (.iconst 1, 1) := by decide +kernel
theorem dX11_ahead_56 : decode cX11_ahead 56 = .ok (.iadd, 1) := by decide +kernel
theorem dX11_ahead_57 : decode cX11_ahead 57 = .ok (.putfield 234, 3) := by decide +kernel
theorem dX11_ahead_60 : decode cX11_ahead 60 = .ok (.aload_n 0, 1) := by decide +kernel
theorem dX11_ahead_61 : decode cX11_ahead 61 = .ok (.bipush 40, 2) := by decide +kernel
theorem dX11_ahead_63 : decode cX11_ahead 63 = .ok (.invokevirtual 241, 3) := by decide +kernel
theorem dX11_ahead_66 : decode cX11_ahead 66 = .ok (.ifCond .eq 32, 3) := by decide +kernel
theorem dX11_ahead_69 : decode cX11_ahead 69 = .ok (.aload_n 0, 1) := by decide +kernel
theorem dX11_ahead_70 : decode cX11_ahead 70 = .ok (.bipush 15, 2) := by decide +kernel
theorem dX11_ahead_72 : decode cX11_ahead 72 = .ok (.invokevirtual 257, 3) := by decide +kernel
theorem dX11_ahead_75 : decode cX11_ahead 75 = .ok (.aload_n 0, 1) := by decide +kernel
theorem dX11_ahead_76 : decode cX11_ahead 76 = .ok (.dup, 1) := by decide +kernel
theorem dX11_ahead_77 : decode cX11_ahead 77 = .ok (.getfield 251, 3) := by decide +kernel
theorem dX11_ahead_80 : decode cX11_ahead 80 = .ok (.iconst 1, 1) := by decide +kernel
theorem dX11_ahead_81 : decode cX11_ahead 81 = .ok (.iadd, 1) := by decide +kernel
theorem dX11_ahead_82 : decode cX11_ahead 82 = .ok (.putfield 251, 3) := by decide +kernel
theorem dX11_ahead_85 : decode cX11_ahead 85 = .ok (.aload_n 0, 1) := by decide +kernel
theorem dX11_ahead_86 : decode cX11_ahead 86 = .ok (.getfield 247, 3) := by decide +kernel
theorem dX11_ahead_89 : decode cX11_ahead 89 = .ok (.aload_n 0, 1) := by decide +kernel
theorem dX11_ahead_90 : decode cX11_ahead 90 = .ok (.getfield 251, 3) := by decide +kernel
theorem dX11_ahead_93 : decode cX11_ahead 93 = .ok (.iconst 0, 1) := by decide +kernel
theorem dX11_ahead_94 : decode cX11_ahead 94 = .ok (.bastore, 1) := by decide +kernel
theorem dX11_ahead_95 : decode cX11_ahead 95 = .ok (.goto 22, 3) := by decide +kernel
theorem dX11_ahead_98 : decode cX11_ahead 98 = .ok (.aload_n 0, 1) := by decide +kernel
theorem dX11_ahead_99 : decode cX11_ahead 99 = .ok (.aload_n 0, 1) := by decide +kernel
theorem dX11_ahead_100 : decode cX11_ahead 100 = .ok (.getfield 190, 3) := by decide +kernel
theorem dX11_ahead_103 : decode cX11_ahead 103 = .ok (.iconst 4, 1) := by decide +kernel
theorem dX11_ahead_104 : decode cX11_ahead 104 = .ok (.if_icmp .ne 8, 3) := by decide +kernel
theorem dX11_ahead_107 : decode cX11_ahead 107 = .ok (.bipush 13, 2) := by decide +kernel
theorem dX11_ahead_109 : decode cX11_ahead 109 = .ok (.goto 5, 3) := by decide +kernel
theorem dX11_ahead_112 : decode cX11_ahead 112 = .ok (.bipush 14, 2) := by decide +kernel
theorem dX11_ahead_114 : decode cX11_ahead 114 = .ok (.invokevirtual 257, 3) := by decide +kernel
theorem dX11_ahead_117 : decode cX11_ahead 117 = .ok (.iconst 1, 1) := by decide +kernel
theorem dX11_ahead_118 : decode cX11_ahead 118 = .ok (.ireturn, 1) := by decide +kernel
theorem dX11_readE_0 : decode cX11_readE 0 = .ok (.aload_n 0, 1) := by decide +kernel
theorem dX11_readE_1 : decode cX11_readE 1 = .ok (.sipush 160, 3) := by decide +kernel
theorem dX11_readE_4 : decode cX11_readE 4 = .ok (.iload_n 1, 1) := by decide +kernel
theorem dX11_readE_5 : decode cX11_readE 5 = .ok (.imul, 1) := by decide +kernel
theorem dX11_readE_6 : decode cX11_readE 6 = .ok (.putfield 219, 3) := by decide +kernel
theorem dX11_readE_9 : decode cX11_readE 9 = .ok (.aload_n 0, 1) := by decide +kernel
theorem dX11_readE_10 : decode cX11_readE 10 = .ok (.iconst 0, 1) := by decide +kernel
theorem dX11_readE_11 : decode cX11_readE 11 = .ok (.putfield 222, 3) := by decide +kernel
theorem dX11_readE_14 : decode cX11_readE 14 = .ok (.aload_n 0, 1) := by decide +kernel
theorem dX11_readE_15 : decode cX11_readE 15 = .ok (.iconst 0, 1) := by decide +kernel
theorem dX11_readE_16 : decode cX11_readE 16 = .ok (.putfield 225, 3) := by decide +kernel
theorem dX11_readE_19 : decode cX11_readE 19 = .ok (.aload_n 0, 1) := by decide +kernel
theorem dX11_readE_20 : decode cX11_readE 20 = .ok (.iconst 0, 1) := by decide +kernel
theorem dX11_readE_21 : decode cX11_readE 21 = .ok (.putfield 234, 3) := by decide +kernel
theorem dX11_readE_24 : decode cX11_readE 24 = .ok (.aload_n 0, 1) := by decide +kernel
theorem dX11_readE_25 : decode cX11_readE 25 = .ok (.iconst 0, 1) := by decide +kernel
theorem dX11_readE_26 : decode cX11_readE 26 = .ok (.putfield 251, 3) := by decide +kernel
theorem dX11_readE_29 : decode cX11_readE 29 = .ok (.aload_n 0, 1) := by decide +kernel
theorem dX11_readE_30 : decode cX11_readE 30 = .ok (.getfield 247, 3) := by decide +kernel
theorem dX11_readE_33 : decode cX11_readE 33 = .ok (.iconst 0, 1) := by decide +kernel
theorem dX11_readE_34 : decode cX11_readE 34 = .ok (.iconst 0, 1) := by decide +kernel
theorem dX11_readE_35 : decode cX11_readE 35 = .ok (.bastore, 1) := by decide +kernel
theorem dX11_readE_36 : decode cX11_readE 36 = .ok (.iconst 1, 1) := by decide +kernel
theorem dX11_readE_37 : decode cX11_readE 37 = .ok (.istore_n 2, 1) := by decide +kernel
theorem dX11_readE_38 : decode cX11_readE 38 = .ok (.iconst 1, 1) := by decide +kernel
theorem dX11_readE_39 : decode cX11_readE 39 = .ok (.istore_n 3, 1) := by decide +kernel
theorem dX11_readE_40 : decode cX11_readE 40 = .ok (.iload_n 2, 1) := by decide +kernel
theorem dX11_readE_41 : decode cX11_readE 41 = .ok (.ifCond .eq 55, 3) := by decide +kernel
theorem dX11_readE_44 : decode cX11_readE 44 = .ok (.aload_n 0, 1) := by decide +kernel
theorem dX11_readE_45 : decode cX11_readE 45 = .ok (.getfield 190, 3) := by decide +kernel
theorem dX11_readE_48 : decode cX11_readE 48 = .ok (.iconst 1, 1) := by decide +kernel
theorem dX11_readE_49 : decode cX11_readE 49 = .ok (.if_icmp .eq 11, 3) := by decide +kernel
theorem dX11_readE_52 : decode cX11_readE 52 = .ok (.aload_n 0, 1) := by decide +kernel
theorem dX11_readE_53 : decode cX11_readE 53 = .ok (.getfield 190, 3) := by decide +kernel
theorem dX11_readE_56 : decode cX11_readE 56 = .ok (.iconst 2, 1) := by decide +kernel
theorem dX11_readE_57 : decode cX11_readE 57 = .ok (.if_icmp .ne 39, 3) := by decide +kernel
theorem dX11_readE_60 : decode cX11_readE 60 = .ok (.aload_n 0, 1) := by decide +kernel
theorem dX11_readE_61 : decode cX11_readE 61 = .ok (.aload_n 0, 1) := by decide +kernel
theorem dX11_readE_62 : decode cX11_readE 62 = .ok (.getfield 190, 3) := by decide +kernel
theorem dX11_readE_65 : decode cX11_readE 65 = .ok (.iconst 1, 1) := by decide +kernel
theorem dX11_readE_66 : decode cX11_readE 66 = .ok (.if_icmp .ne 12, 3) := by decide +kernel
theorem dX11_readE_69 : decode cX11_readE 69 = .ok (.iconst (-1), 1) := by decide +kernel
theorem dX11_readE_70 : decode cX11_readE 70 = .ok (.aload_n 0, 1) := by decide +kernel
theorem dX11_readE_71 : decode cX11_readE 71 = .ok (.getfield 203, 3) := by decide +kernel
theorem dX11_readE_74 : decode cX11_readE 74 = .ok (.isub, 1) := by decide +kernel
theorem dX11_readE_75 : decode cX11_readE 75 = .ok (.goto 7, 3) := by decide +kernel
theorem dX11_readE_78 : decode cX11_readE 78 = .ok (.aload_n 0, 1) := by decide +kernel
theorem dX11_readE_79 : decode cX11_readE 79 = .ok (.getfield 203, 3) := by decide +kernel
theorem dX11_readE_82 : decode cX11_readE 82 = .ok (.invokevirtual 237, 3) := by decide +kernel
theorem dX11_readE_85 : decode cX11_readE 85 = .ok (.aload_n 0, 1) := by decide +kernel
theorem dX11_readE_86 : decode cX11_readE 86 = .ok (.bipush 7, 2) := by decide +kernel
theorem dX11_readE_88 : decode cX11_readE 88 = .ok (.invokevirtual 254, 3) := by decide +kernel
theorem dX11_readE_91 : decode cX11_readE 91 = .ok (.iconst 0, 1) := by decide +kernel
theorem dX11_readE_92 : decode cX11_readE 92 = .ok (.istore_n 2, 1) := by decide +kernel
theorem dX11_readE_93 : decode cX11_readE 93 = .ok (.goto 115, 3) := by decide +kernel
theorem dX11_readE_96 : decode cX11_readE 96 = .ok (.iload_n 2, 1) := by decide +kernel
theorem dX11_readE_97 : decode cX11_readE 97 = .ok (.ifCond .eq 35, 3) := by decide +kernel
theorem dX11_readE_100 : decode cX11_readE 100 = .ok (.aload_n 0, 1) := by decide +kernel
theorem dX11_readE_101 : decode cX11_readE 101 = .ok (.bipush 45, 2) := by decide +kernel
theorem dX11_readE_103 : decode cX11_readE 103 = .ok (.invokevirtual 241, 3) := by decide +kernel
theorem dX11_readE_106 : decode cX11_readE 106 = .ok (.istore 4, 2) := by decide +kernel
theorem dX11_readE_108 : decode cX11_readE 108 = .ok (.aload_n 0, 1) := by decide +kernel
theorem dX11_readE_109 : decode cX11_readE 109 = .ok (.iload_n 3, 1) := by decide +kernel
theorem dX11_readE_110 : decode cX11_readE 110 = .ok (.invokevirtual 260, 3) := by decide +kernel
theorem dX11_readE_113 : decode cX11_readE 113 = .ok (.ifCond .ne 5, 3) := by decide +kernel
theorem dX11_readE_116 : decode cX11_readE 116 = .ok (.iconst 0, 1) := by decide +kernel
theorem dX11_readE_117 : decode cX11_readE 117 = .ok (.ireturn, 1) := by decide +kernel
theorem dX11_readE_118 : decode cX11_readE 118 = .ok (.iload 4, 2) := by decide +kernel
theorem dX11_readE_120 : decode cX11_readE 120 = .ok (.ifCond .ne 7, 3) := by decide +kernel
theorem dX11_readE_123 : decode cX11_readE 123 = .ok (.iconst 1, 1) := by decide +kernel
theorem dX11_readE_124 : decode cX11_readE 124 = .ok (.goto 4, 3) := by decide +kernel
theorem dX11_readE_127 : decode cX11_readE 127 = .ok (.iconst 0, 1) := by decide +kernel
theorem dX11_readE_128 : decode cX11_readE 128 = .ok (.istore_n 3, 1) := by decide +kernel
theorem dX11_readE_129 : decode cX11_readE 129 = .ok (.goto 79, 3) := by decide +kernel
theorem dX11_readE_132 : decode cX11_readE 132 = .ok (.aload_n 0, 1) := by decide +kernel
theorem dX11_readE_133 : decode cX11_readE 133 = .ok (.bipush 59, 2) := by decide +kernel
theorem dX11_readE_135 : decode cX11_readE 135 = .ok (.invokevirtual 241, 3) := by decide +kernel
theorem dX11_readE_138 : decode cX11_readE 138 = .ok (.ifCond .eq 27, 3) := by decide +kernel
theorem dX11_readE_141 : decode cX11_readE 141 = .ok (.aload_n 0, 1) := by decide +kernel
theorem dX11_readE_142 : decode cX11_readE 142 = .ok (.getfield 251, 3) := by decide +kernel
theorem dX11_readE_145 : decode cX11_readE 145 = .ok (.ifCond .ne 20, 3) := by decide +kernel
theorem dX11_readE_148 : decode cX11_readE 148 = .ok (.aload_n 0, 1) := by decide +kernel
theorem dX11_readE_149 : decode cX11_readE 149 = .ok (.iconst 1, 1) := by decide +kernel
theorem dX11_readE_150 : decode cX11_readE 150 = .ok (.invokevirtual 254, 3) := by decide +kernel
theorem dX11_readE_153 : decode cX11_readE 153 = .ok (.aload_n 0, 1) := by decide +kernel
theorem dX11_readE_154 : decode cX11_readE 154 = .ok (.getfield 264, 3) := by decide +kernel
theorem dX11_readE_157 : decode cX11_readE 157 = .ok (.iload_n 1, 1) := by decide +kernel
theorem dX11_readE_158 : decode cX11_readE 158 = .ok (.aload_n 0, 1) := by decide +kernel
theorem dX11_readE_159 : decode cX11_readE 159 = .ok (.getfield 222, 3) := by decide +kernel
theorem dX11_readE_162 : decode cX11_readE 162 = .ok (.iastore, 1) := by decide +kernel
theorem dX11_readE_163 : decode cX11_readE 163 = .ok (.iconst 1, 1) := by decide +kernel
theorem dX11_readE_164 : decode cX11_readE 164 = .ok (.ireturn, 1) := by decide +kernel
theorem dX11_readE_165 : decode cX11_readE 165 = .ok (.aload_n 0, 1) := by decide +kernel
theorem dX11_readE_166 : decode cX11_readE 166 = .ok (.invokevirtual 267, 3) := by decide +kernel
theorem dX11_readE_169 : decode cX11_readE 169 = .ok (.ifCond .eq 30, 3) := by decide +kernel
theorem dX11_readE_172 : decode cX11_readE 172 = .ok (.iconst 1, 1) := by decide +kernel
theorem dX11_readE_173 : decode cX11_readE 173 = .ok (.istore_n 2, 1) := by decide +kernel
theorem dX11_readE_174 : decode cX11_readE 174 = .ok (.aload_n 0, 1) := by decide +kernel
theorem dX11_readE_175 : decode cX11_readE 175 = .ok (.iconst 3, 1) := by decide +kernel
theorem dX11_readE_176 : decode cX11_readE 176 = .ok (.invokevirtual 244, 3) := by decide +kernel
theorem dX11_readE_179 : decode cX11_readE 179 = .ok (.ifCond .ne 11, 3) := by decide +kernel
theorem dX11_readE_182 : decode cX11_readE 182 = .ok (.aload_n 0, 1) := by decide +kernel
theorem dX11_readE_183 : decode cX11_readE 183 = .ok (.iconst 2, 1) := by decide +kernel
theorem dX11_readE_184 : decode cX11_readE 184 = .ok (.invokevirtual 244, 3) := by decide +kernel
theorem dX11_readE_187 : decode cX11_readE 187 = .ok (.ifCond .eq 7, 3) := by decide +kernel
theorem dX11_readE_190 : decode cX11_readE 190 = .ok (.iconst 1, 1) := by decide +kernel
theorem dX11_readE_191 : decode cX11_readE 191 = .ok (.goto 4, 3) := by decide +kernel
theorem dX11_readE_194 : decode cX11_readE 194 = .ok (.iconst 0, 1) := by decide +kernel
theorem dX11_readE_195 : decode cX11_readE 195 = .ok (.istore_n 3, 1) := by decide +kernel
theorem dX11_readE_196 : decode cX11_readE 196 = .ok (.goto 12, 3) := by decide +kernel
theorem dX11_readE_199 : decode cX11_readE 199 = .ok (.aload_n 0, 1) := by decide +kernel
theorem dX11_readE_200 : decode cX11_readE 200 = .ok (.invokevirtual 271, 3) := by decide +kernel
theorem dX11_readE_203 : decode cX11_readE 203 = .ok (.ifCond .ne 5, 3) := by decide +kernel
theorem dX11_readE_206 : decode cX11_readE 206 = .ok (.iconst 0, 1) := by decide +kernel
theorem dX11_readE_207 : decode cX11_readE 207 = .ok (.ireturn, 1) := by decide +kernel
theorem dX11_readE_208 : decode cX11_readE 208 = .ok (.aload_n 0, 1) := by decide +kernel
theorem dX11_readE_209 : decode cX11_readE 209 = .ok (.invokevirtual 274, 3) := by decide +kernel
theorem dX11_readE_212 : decode cX11_readE 212 = .ok (.goto (-172), 3) := by decide +kernel
theorem dX11_readAll_0 : decode cX11_readAll 0 = .ok (.aload_n 0, 1) := by decide +kernel
theorem dX11_readAll_1 : decode cX11_readAll 1 = .ok (.iconst 0, 1) := by decide +kernel
theorem dX11_readAll_2 : decode cX11_readAll 2 = .ok (.putfield 184, 3) := by decide +kernel
theorem dX11_readAll_5 : decode cX11_readAll 5 = .ok (.iconst 0, 1) := by decide +kernel
theorem dX11_readAll_6 : decode cX11_readAll 6 = .ok (.istore_n 2, 1) := by decide +kernel
theorem dX11_readAll_7 : decode cX11_readAll 7 = .ok (.iload_n 2, 1) := by decide +kernel
theorem dX11_readAll_8 : decode cX11_readAll 8 = .ok (.iconst 2, 1) := by decide +kernel
theorem dX11_readAll_9 : decode cX11_readAll 9 = .ok (.if_icmp .ge 47, 3) := by decide +kernel
theorem dX11_readAll_12 : decode cX11_readAll 12 = .ok (.aload_n 0, 1) := by decide +kernel
theorem dX11_readAll_13 : decode cX11_readAll 13 = .ok (.invokevirtual 274, 3) := by decide +kernel
theorem dX11_readAll_16 : decode cX11_readAll 16 = .ok (.aload_n 0, 1) := by decide +kernel
theorem dX11_readAll_17 : decode cX11_readAll 17 = .ok (.iload_n 2, 1) := by decide +kernel
theorem dX11_readAll_18 : decode cX11_readAll 18 = .ok (.invokevirtual 244, 3) := by decide +kernel
theorem dX11_readAll_21 : decode cX11_readAll 21 = .ok (.ifCond .ne 8, 3) := by decide +kernel
theorem dX11_readAll_24 : decode cX11_readAll 24 = .ok (.aload_n 0, 1) := by decide +kernel
theorem dX11_readAll_25 : decode cX11_readAll 25 = .ok (.getfield 196, 3) := by decide +kernel
theorem dX11_readAll_28 : decode cX11_readAll 28 = .ok (.ireturn, 1) := by decide +kernel
theorem dX11_readAll_29 : decode cX11_readAll 29 = .ok (.aload_n 0, 1) := by decide +kernel
theorem dX11_readAll_30 : decode cX11_readAll 30 = .ok (.invokevirtual 274, 3) := by decide +kernel
theorem dX11_readAll_33 : decode cX11_readAll 33 = .ok (.aload_n 0, 1) := by decide +kernel
theorem dX11_readAll_34 : decode cX11_readAll 34 = .ok (.iconst 2, 1) := by decide +kernel
theorem dX11_readAll_35 : decode cX11_readAll 35 = .ok (.iload_n 1, 1) := by decide +kernel
theorem dX11_readAll_36 : decode cX11_readAll 36 = .ok (.imul, 1) := by decide +kernel
theorem dX11_readAll_37 : decode cX11_readAll 37 = .ok (.iload_n 2, 1) := by decide +kernel
theorem dX11_readAll_38 : decode cX11_readAll 38 = .ok (.iadd, 1) := by decide +kernel
theorem dX11_readAll_39 : decode cX11_readAll 39 = .ok (.invokevirtual 277, 3) := by decide +kernel
theorem dX11_readAll_42 : decode cX11_readAll 42 = .ok (.ifCond .ne 8, 3) := by decide +kernel
theorem dX11_readAll_45 : decode cX11_readAll 45 = .ok (.aload_n 0, 1) := by decide +kernel
theorem dX11_readAll_46 : decode cX11_readAll 46 = .ok (.getfield 196, 3) := by decide +kernel
theorem dX11_readAll_49 : decode cX11_readAll 49 = .ok (.ireturn, 1) := by decide +kernel
theorem dX11_readAll_50 : decode cX11_readAll 50 = .ok (.iinc 2 1, 3) := by decide +kernel
theorem dX11_readAll_53 : decode cX11_readAll 53 = .ok (.goto (-46), 3) := by decide +kernel
theorem dX11_readAll_56 : decode cX11_readAll 56 = .ok (.aload_n 0, 1) := by decide +kernel
theorem dX11_readAll_57 : decode cX11_readAll 57 = .ok (.invokevirtual 274, 3) := by decide +kernel
theorem dX11_readAll_60 : decode cX11_readAll 60 = .ok (.aload_n 0, 1) := by decide +kernel
theorem dX11_readAll_61 : decode cX11_readAll 61 = .ok (.getfield 190, 3) := by decide +kernel
theorem dX11_readAll_64 : decode cX11_readAll 64 = .ok (.ifCond .ne 7, 3) := by decide +kernel
theorem dX11_readAll_67 : decode cX11_readAll 67 = .ok (.iconst (-1), 1) := by decide +kernel
theorem dX11_readAll_68 : decode cX11_readAll 68 = .ok (.goto 7, 3) := by decide +kernel
theorem dX11_readAll_71 : decode cX11_readAll 71 = .ok (.aload_n 0, 1) := by decide +kernel
theorem dX11_readAll_72 : decode cX11_readAll 72 = .ok (.getfield 196, 3) := by decide +kernel
theorem dX11_readAll_75 : decode cX11_readAll 75 = .ok (.ireturn, 1) := by decide +kernel
theorem dX11_text_0 : decode cX11_text 0 = .ok (.aload_n 0, 1) := by decide +kernel
theorem dX11_text_1 : decode cX11_text 1 = .ok (.getfield 280, 3) := by decide +kernel
theorem dX11_text_4 : decode cX11_text 4 = .ok (.bipush 6, 2) := by decide +kernel
theorem dX11_text_6 : decode cX11_text 6 = .ok (.if_icmp .ne 6, 3) := by decide +kernel
theorem dX11_text_9 : decode cX11_text 9 = .ok (.bipush (-4), 2) := by decide +kernel
theorem dX11_text_11 : decode cX11_text 11 = .ok (.ireturn, 1) := by decide +kernel
theorem dX11_text_12 : decode cX11_text 12 = .ok (.aload_n 0, 1) := by decide +kernel
theorem dX11_text_13 : decode cX11_text 13 = .ok (.aload_n 0, 1) := by decide +kernel
theorem dX11_text_14 : decode cX11_text 14 = .ok (.getfield 280, 3) := by decide +kernel
theorem dX11_text_17 : decode cX11_text 17 = .ok (.invokevirtual 283, 3) := by decide +kernel
theorem dX11_text_20 : decode cX11_text 20 = .ok (.istore_n 1, 1) := by decide +kernel
theorem dX11_text_21 : decode cX11_text 21 = .ok (.aload_n 0, 1) := by decide +kernel
theorem dX11_text_22 : decode cX11_text 22 = .ok (.iconst 0, 1) := by decide +kernel
theorem dX11_text_23 : decode cX11_text 23 = .ok (.putfield 177, 3) := by decide +kernel
theorem dX11_text_26 : decode cX11_text 26 = .ok (.iload_n 1, 1) := by decide +kernel
theorem dX11_text_27 : decode cX11_text 27 = .ok (.iconst (-1), 1) := by decide +kernel
theorem dX11_text_28 : decode cX11_text 28 = .ok (.if_icmp .eq 8, 3) := by decide +kernel
theorem dX11_text_31 : decode cX11_text 31 = .ok (.bipush (-100), 2) := by decide +kernel
theorem dX11_text_33 : decode cX11_text 33 = .ok (.iload_n 1, 1) := by decide +kernel
theorem dX11_text_34 : decode cX11_text 34 = .ok (.isub, 1) := by decide +kernel
theorem dX11_text_35 : decode cX11_text 35 = .ok (.ireturn, 1) := by decide +kernel
theorem dX11_text_36 : decode cX11_text 36 = .ok (.aload_n 0, 1) := by decide +kernel
theorem dX11_text_37 : decode cX11_text 37 = .ok (.dup, 1) := by decide +kernel
theorem dX11_text_38 : decode cX11_text 38 = .ok (.getfield 280, 3) := by decide +kernel
theorem dX11_text_41 : decode cX11_text 41 = .ok (.iconst 1, 1) := by decide +kernel
theorem dX11_text_42 : decode cX11_text 42 = .ok (.iadd, 1) := by decide +kernel
theorem dX11_text_43 : decode cX11_text 43 = .ok (.putfield 280, 3) := by decide +kernel
theorem dX11_text_46 : decode cX11_text 46 = .ok (.aload_n 0, 1) := by decide +kernel
theorem dX11_text_47 : decode cX11_text 47 = .ok (.getfield 280, 3) := by decide +kernel
theorem dX11_text_50 : decode cX11_text 50 = .ok (.iconst 1, 1) := by decide +kernel
theorem dX11_text_51 : decode cX11_text 51 = .ok (.isub, 1) := by decide +kernel
theorem dX11_text_52 : decode cX11_text 52 = .ok (.ireturn, 1) := by decide +kernel
theorem dX11_force_0 : decode cX11_force 0 = .ok (.iload_n 1, 1) := by decide +kernel
theorem dX11_force_1 : decode cX11_force 1 = .ok (.i2l, 1) := by decide +kernel
theorem dX11_force_2 : decode cX11_force 2 = .ok (.lconst 0, 1) := by decide +kernel
theorem dX11_force_3 : decode cX11_force 3 = .ok (.aload_n 0, 1) := by decide +kernel
theorem dX11_force_4 : decode cX11_force 4 = .ok (.getfield 280, 3) := by decide +kernel
theorem dX11_force_7 : decode cX11_force 7 = .ok (.iconst 1, 1) := by decide +kernel
theorem dX11_force_8 : decode cX11_force 8 = .ok (.isub, 1) := by decide +kernel
theorem dX11_force_9 : decode cX11_force 9 = .ok (.i2l, 1) := by decide +kernel
theorem dX11_force_10 : decode cX11_force 10 = .ok (.invokestatic 18, 3) := by decide +kernel
theorem dX11_force_13 : decode cX11_force 13 = .ok (.ifCond .ne 6, 3) := by decide +kernel
theorem dX11_force_16 : decode cX11_force 16 = .ok (.bipush (-2), 2) := by decide +kernel
theorem dX11_force_18 : decode cX11_force 18 = .ok (.ireturn, 1) := by decide +kernel
theorem dX11_force_19 : decode cX11_force 19 = .ok (.aload_n 0, 1) := by decide +kernel
theorem dX11_force_20 : decode cX11_force 20 = .ok (.getfield 286, 3) := by decide +kernel
theorem dX11_force_23 : decode cX11_force 23 = .ok (.istore_n 2, 1) := by decide +kernel
theorem dX11_force_24 : decode cX11_force 24 = .ok (.aload_n 0, 1) := by decide +kernel
theorem dX11_force_25 : decode cX11_force 25 = .ok (.iload_n 1, 1) := by decide +kernel
theorem dX11_force_26 : decode cX11_force 26 = .ok (.putfield 286, 3) := by decide +kernel
theorem dX11_force_29 : decode cX11_force 29 = .ok (.iload_n 2, 1) := by decide +kernel
theorem dX11_force_30 : decode cX11_force 30 = .ok (.ireturn, 1) := by decide +kernel
theorem dX11_nameOf_0 : decode cX11_nameOf 0 = .ok (.iload_n 1, 1) := by decide +kernel
theorem dX11_nameOf_1 : decode cX11_nameOf 1 = .ok (.tableswitch 93 0 4 #[35, 59, 66, 79, 86], 35) := by decide +kernel
theorem dX11_nameOf_36 : decode cX11_nameOf 36 = .ok (.aload_n 0, 1) := by decide +kernel
theorem dX11_nameOf_37 : decode cX11_nameOf 37 = .ok (.getfield 96, 3) := by decide +kernel
theorem dX11_nameOf_40 : decode cX11_nameOf 40 = .ok (.iload_n 2, 1) := by decide +kernel
theorem dX11_nameOf_41 : decode cX11_nameOf 41 = .ok (.iaload, 1) := by decide +kernel
theorem dX11_nameOf_42 : decode cX11_nameOf 42 = .ok (.iconst (-1), 1) := by decide +kernel
theorem dX11_nameOf_43 : decode cX11_nameOf 43 = .ok (.if_icmp .ne 7, 3) := by decide +kernel
theorem dX11_nameOf_46 : decode cX11_nameOf 46 = .ok (.iconst 0, 1) := by decide +kernel
theorem dX11_nameOf_47 : decode cX11_nameOf 47 = .ok (.goto 12, 3) := by decide +kernel
theorem dX11_nameOf_50 : decode cX11_nameOf 50 = .ok (.iload 4, 2) := by decide +kernel
theorem dX11_nameOf_52 : decode cX11_nameOf 52 = .ok (.aload_n 0, 1) := by decide +kernel
theorem dX11_nameOf_53 : decode cX11_nameOf 53 = .ok (.getfield 96, 3) := by decide +kernel
theorem dX11_nameOf_56 : decode cX11_nameOf 56 = .ok (.iload_n 2, 1) := by decide +kernel
theorem dX11_nameOf_57 : decode cX11_nameOf 57 = .ok (.iaload, 1) := by decide +kernel
theorem dX11_nameOf_58 : decode cX11_nameOf 58 = .ok (.isub, 1) := by decide +kernel
theorem dX11_nameOf_59 : decode cX11_nameOf 59 = .ok (.ireturn, 1) := by decide +kernel
theorem dX11_nameOf_60 : decode cX11_nameOf 60 = .ok (.aload_n 0, 1) := by decide +kernel
theorem dX11_nameOf_61 : decode cX11_nameOf 61 = .ok (.getfield 29, 3) := by decide +kernel
theorem dX11_nameOf_64 : decode cX11_nameOf 64 = .ok (.iload_n 2, 1) := by decide +kernel
theorem dX11_nameOf_65 : decode cX11_nameOf 65 = .ok (.iaload, 1) := by decide +kernel
theorem dX11_nameOf_66 : decode cX11_nameOf 66 = .ok (.ireturn, 1) := by decide +kernel
theorem dX11_nameOf_67 : decode cX11_nameOf 67 = .ok (.aload_n 0, 1) := by decide +kernel
theorem dX11_nameOf_68 : decode cX11_nameOf 68 = .ok (.getfield 168, 3) := by decide +kernel
theorem dX11_nameOf_71 : decode cX11_nameOf 71 = .ok (.bipush 61, 2) := by decide +kernel
theorem dX11_nameOf_73 : decode cX11_nameOf 73 = .ok (.iload_n 3, 1) := by decide +kernel
theorem dX11_nameOf_74 : decode cX11_nameOf 74 = .ok (.imul, 1) := by decide +kernel
theorem dX11_nameOf_75 : decode cX11_nameOf 75 = .ok (.iload 4, 2) := by decide +kernel
theorem dX11_nameOf_77 : decode cX11_nameOf 77 = .ok (.iadd, 1) := by decide +kernel
theorem dX11_nameOf_78 : decode cX11_nameOf 78 = .ok (.iaload, 1) := by decide +kernel
theorem dX11_nameOf_79 : decode cX11_nameOf 79 = .ok (.ireturn, 1) := by decide +kernel
theorem dX11_nameOf_80 : decode cX11_nameOf 80 = .ok (.aload_n 0, 1) := by decide +kernel
theorem dX11_nameOf_81 : decode cX11_nameOf 81 = .ok (.getfield 33, 3) := by decide +kernel
theorem dX11_nameOf_84 : decode cX11_nameOf 84 = .ok (.iload_n 2, 1) := by decide +kernel
theorem dX11_nameOf_85 : decode cX11_nameOf 85 = .ok (.iaload, 1) := by decide +kernel
theorem dX11_nameOf_86 : decode cX11_nameOf 86 = .ok (.ireturn, 1) := by decide +kernel
theorem dX11_nameOf_87 : decode cX11_nameOf 87 = .ok (.aload_n 0, 1) := by decide +kernel
theorem dX11_nameOf_88 : decode cX11_nameOf 88 = .ok (.getfield 93, 3) := by decide +kernel
theorem dX11_nameOf_91 : decode cX11_nameOf 91 = .ok (.iload_n 2, 1) := by decide +kernel
theorem dX11_nameOf_92 : decode cX11_nameOf 92 = .ok (.iaload, 1) := by decide +kernel
theorem dX11_nameOf_93 : decode cX11_nameOf 93 = .ok (.ireturn, 1) := by decide +kernel
theorem dX11_nameOf_94 : decode cX11_nameOf 94 = .ok (.iload_n 2, 1) := by decide +kernel
theorem dX11_nameOf_95 : decode cX11_nameOf 95 = .ok (.ireturn, 1) := by decide +kernel
theorem dX11_done_0 : decode cX11_done 0 = .ok (.iload_n 0, 1) := by decide +kernel
theorem dX11_done_1 : decode cX11_done 1 = .ok (.tableswitch 87 6 11 #[39, 43, 47, 51, 62, 73], 39) := by decide +kernel
theorem dX11_done_40 : decode cX11_done 40 = .ok (.iload_n 1, 1) := by decide +kernel
theorem dX11_done_41 : decode cX11_done 41 = .ok (.iload_n 2, 1) := by decide +kernel
theorem dX11_done_42 : decode cX11_done 42 = .ok (.iadd, 1) := by decide +kernel
theorem dX11_done_43 : decode cX11_done 43 = .ok (.ireturn, 1) := by decide +kernel
theorem dX11_done_44 : decode cX11_done 44 = .ok (.iload_n 1, 1) := by decide +kernel
theorem dX11_done_45 : decode cX11_done 45 = .ok (.iload_n 2, 1) := by decide +kernel
theorem dX11_done_46 : decode cX11_done 46 = .ok (.isub, 1) := by decide +kernel
theorem dX11_done_47 : decode cX11_done 47 = .ok (.ireturn, 1) := by decide +kernel
theorem dX11_done_48 : decode cX11_done 48 = .ok (.iload_n 1, 1) := by decide +kernel
theorem dX11_done_49 : decode cX11_done 49 = .ok (.iload_n 2, 1) := by decide +kernel
theorem dX11_done_50 : decode cX11_done 50 = .ok (.imul, 1) := by decide +kernel
theorem dX11_done_51 : decode cX11_done 51 = .ok (.ireturn, 1) := by decide +kernel
theorem dX11_done_52 : decode cX11_done 52 = .ok (.iload_n 1, 1) := by decide +kernel
theorem dX11_done_53 : decode cX11_done 53 = .ok (.iload_n 2, 1) := by decide +kernel
theorem dX11_done_54 : decode cX11_done 54 = .ok (.if_icmp .ge 7, 3) := by decide +kernel
theorem dX11_done_57 : decode cX11_done 57 = .ok (.iconst 1, 1) := by decide +kernel
theorem dX11_done_58 : decode cX11_done 58 = .ok (.goto 4, 3) := by decide +kernel
theorem dX11_done_61 : decode cX11_done 61 = .ok (.iconst 0, 1) := by decide +kernel
theorem dX11_done_62 : decode cX11_done 62 = .ok (.ireturn, 1) := by decide +kernel
theorem dX11_done_63 : decode cX11_done 63 = .ok (.iload_n 1, 1) := by decide +kernel
theorem dX11_done_64 : decode cX11_done 64 = .ok (.iload_n 2, 1) := by decide +kernel
theorem dX11_done_65 : decode cX11_done 65 = .ok (.if_icmp .ne 7, 3) := by decide +kernel
theorem dX11_done_68 : decode cX11_done 68 = .ok (.iconst 1, 1) := by decide +kernel
theorem dX11_done_69 : decode cX11_done 69 = .ok (.goto 4, 3) := by decide +kernel
theorem dX11_done_72 : decode cX11_done 72 = .ok (.iconst 0, 1) := by decide +kernel
theorem dX11_done_73 : decode cX11_done 73 = .ok (.ireturn, 1) := by decide +kernel
theorem dX11_done_74 : decode cX11_done 74 = .ok (.iload_n 1, 1) := by decide +kernel
theorem dX11_done_75 : decode cX11_done 75 = .ok (.ifCond .eq 11, 3) := by decide +kernel
theorem dX11_done_78 : decode cX11_done 78 = .ok (.iload_n 2, 1) := by decide +kernel
theorem dX11_done_79 : decode cX11_done 79 = .ok (.ifCond .eq 7, 3) := by decide +kernel
theorem dX11_done_82 : decode cX11_done 82 = .ok (.iconst 1, 1) := by decide +kernel
theorem dX11_done_83 : decode cX11_done 83 = .ok (.goto 4, 3) := by decide +kernel
theorem dX11_done_86 : decode cX11_done 86 = .ok (.iconst 0, 1) := by decide +kernel
theorem dX11_done_87 : decode cX11_done 87 = .ok (.ireturn, 1) := by decide +kernel
theorem dX11_done_88 : decode cX11_done 88 = .ok (.iload_n 1, 1) := by decide +kernel
theorem dX11_done_89 : decode cX11_done 89 = .ok (.ifCond .ne 7, 3) := by decide +kernel
theorem dX11_done_92 : decode cX11_done 92 = .ok (.iload_n 2, 1) := by decide +kernel
theorem dX11_done_93 : decode cX11_done 93 = .ok (.ifCond .eq 7, 3) := by decide +kernel
theorem dX11_done_96 : decode cX11_done 96 = .ok (.iconst 1, 1) := by decide +kernel
theorem dX11_done_97 : decode cX11_done 97 = .ok (.goto 4, 3) := by decide +kernel
theorem dX11_done_100 : decode cX11_done 100 = .ok (.iconst 0, 1) := by decide +kernel
theorem dX11_done_101 : decode cX11_done 101 = .ok (.ireturn, 1) := by decide +kernel
theorem dX11_worthOf_0 : decode cX11_worthOf 0 = .ok (.iconst 2, 1) := by decide +kernel
theorem dX11_worthOf_1 : decode cX11_worthOf 1 = .ok (.aload_n 0, 1) := by decide +kernel
theorem dX11_worthOf_2 : decode cX11_worthOf 2 = .ok (.getfield 286, 3) := by decide +kernel
theorem dX11_worthOf_5 : decode cX11_worthOf 5 = .ok (.imul, 1) := by decide +kernel
theorem dX11_worthOf_6 : decode cX11_worthOf 6 = .ok (.iload_n 1, 1) := by decide +kernel
theorem dX11_worthOf_7 : decode cX11_worthOf 7 = .ok (.iadd, 1) := by decide +kernel
theorem dX11_worthOf_8 : decode cX11_worthOf 8 = .ok (.istore 5, 2) := by decide +kernel
theorem dX11_worthOf_10 : decode cX11_worthOf 10 = .ok (.iconst 0, 1) := by decide +kernel
theorem dX11_worthOf_11 : decode cX11_worthOf 11 = .ok (.istore 6, 2) := by decide +kernel
theorem dX11_worthOf_13 : decode cX11_worthOf 13 = .ok (.iconst 0, 1) := by decide +kernel
theorem dX11_worthOf_14 : decode cX11_worthOf 14 = .ok (.istore 7, 2) := by decide +kernel
theorem dX11_worthOf_16 : decode cX11_worthOf 16 = .ok (.iload 7, 2) := by decide +kernel
theorem dX11_worthOf_18 : decode cX11_worthOf 18 = .ok (.aload_n 0, 1) := by decide +kernel
theorem dX11_worthOf_19 : decode cX11_worthOf 19 = .ok (.getfield 264, 3) := by decide +kernel
theorem dX11_worthOf_22 : decode cX11_worthOf 22 = .ok (.iload 5, 2) := by decide +kernel
theorem dX11_worthOf_24 : decode cX11_worthOf 24 = .ok (.iaload, 1) := by decide +kernel
theorem dX11_worthOf_25 : decode cX11_worthOf 25 = .ok (.if_icmp .ge 175, 3) := by decide +kernel
theorem dX11_worthOf_28 : decode cX11_worthOf 28 = .ok (.aload_n 0, 1) := by decide +kernel
theorem dX11_worthOf_29 : decode cX11_worthOf 29 = .ok (.getfield 216, 3) := by decide +kernel
theorem dX11_worthOf_32 : decode cX11_worthOf 32 = .ok (.sipush 160, 3) := by decide +kernel
theorem dX11_worthOf_35 : decode cX11_worthOf 35 = .ok (.iload 5, 2) := by decide +kernel
theorem dX11_worthOf_37 : decode cX11_worthOf 37 = .ok (.imul, 1) := by decide +kernel
theorem dX11_worthOf_38 : decode cX11_worthOf 38 = .ok (.iload 7, 2) := by decide +kernel
theorem dX11_worthOf_40 : decode cX11_worthOf 40 = .ok (.iadd, 1) := by decide +kernel
theorem dX11_worthOf_41 : decode cX11_worthOf 41 = .ok (.iaload, 1) := by decide +kernel
theorem dX11_worthOf_42 : decode cX11_worthOf 42 = .ok (.istore 8, 2) := by decide +kernel
theorem dX11_worthOf_44 : decode cX11_worthOf 44 = .ok (.iload 8, 2) := by decide +kernel
theorem dX11_worthOf_46 : decode cX11_worthOf 46 = .ok (.ifCond .ge 20, 3) := by decide +kernel
theorem dX11_worthOf_49 : decode cX11_worthOf 49 = .ok (.aload_n 0, 1) := by decide +kernel
theorem dX11_worthOf_50 : decode cX11_worthOf 50 = .ok (.getfield 289, 3) := by decide +kernel
theorem dX11_worthOf_53 : decode cX11_worthOf 53 = .ok (.iload 6, 2) := by decide +kernel
theorem dX11_worthOf_55 : decode cX11_worthOf 55 = .ok (.iconst (-1), 1) := by decide +kernel
theorem dX11_worthOf_56 : decode cX11_worthOf 56 = .ok (.iload 8, 2) := by decide +kernel
theorem dX11_worthOf_58 : decode cX11_worthOf 58 = .ok (.isub, 1) := by decide +kernel
theorem dX11_worthOf_59 : decode cX11_worthOf 59 = .ok (.iastore, 1) := by decide +kernel
theorem dX11_worthOf_60 : decode cX11_worthOf 60 = .ok (.iinc 6 1, 3) := by decide +kernel
theorem dX11_worthOf_63 : decode cX11_worthOf 63 = .ok (.goto 131, 3) := by decide +kernel
theorem dX11_worthOf_66 : decode cX11_worthOf 66 = .ok (.iload 8, 2) := by decide +kernel
theorem dX11_worthOf_68 : decode cX11_worthOf 68 = .ok (.bipush 6, 2) := by decide +kernel
theorem dX11_worthOf_70 : decode cX11_worthOf 70 = .ok (.if_icmp .ge 26, 3) := by decide +kernel
theorem dX11_worthOf_73 : decode cX11_worthOf 73 = .ok (.aload_n 0, 1) := by decide +kernel
theorem dX11_worthOf_74 : decode cX11_worthOf 74 = .ok (.getfield 289, 3) := by decide +kernel
theorem dX11_worthOf_77 : decode cX11_worthOf 77 = .ok (.iload 6, 2) := by decide +kernel
theorem dX11_worthOf_79 : decode cX11_worthOf 79 = .ok (.aload_n 0, 1) := by decide +kernel
theorem dX11_worthOf_80 : decode cX11_worthOf 80 = .ok (.iload 8, 2) := by decide +kernel
theorem dX11_worthOf_82 : decode cX11_worthOf 82 = .ok (.iload_n 2, 1) := by decide +kernel
theorem dX11_worthOf_83 : decode cX11_worthOf 83 = .ok (.iload_n 3, 1) := by decide +kernel
theorem dX11_worthOf_84 : decode cX11_worthOf 84 = .ok (.iload 4, 2) := by decide +kernel
theorem dX11_worthOf_86 : decode cX11_worthOf 86 = .ok (.invokevirtual 292, 3) := by decide +kernel
theorem dX11_worthOf_89 : decode cX11_worthOf 89 = .ok (.iastore, 1) := by decide +kernel
theorem dX11_worthOf_90 : decode cX11_worthOf 90 = .ok (.iinc 6 1, 3) := by decide +kernel
theorem dX11_worthOf_93 : decode cX11_worthOf 93 = .ok (.goto 101, 3) := by decide +kernel
theorem dX11_worthOf_96 : decode cX11_worthOf 96 = .ok (.iload 8, 2) := by decide +kernel
theorem dX11_worthOf_98 : decode cX11_worthOf 98 = .ok (.bipush 13, 2) := by decide +kernel
theorem dX11_worthOf_100 : decode cX11_worthOf 100 = .ok (.if_icmp .ne 32, 3) := by decide +kernel
theorem dX11_worthOf_103 : decode cX11_worthOf 103 = .ok (.aload_n 0, 1) := by decide +kernel
theorem dX11_worthOf_104 : decode cX11_worthOf 104 = .ok (.getfield 289, 3) := by decide +kernel
theorem dX11_worthOf_107 : decode cX11_worthOf 107 = .ok (.iload 6, 2) := by decide +kernel
theorem dX11_worthOf_109 : decode cX11_worthOf 109 = .ok (.iconst 1, 1) := by decide +kernel
theorem dX11_worthOf_110 : decode cX11_worthOf 110 = .ok (.isub, 1) := by decide +kernel
theorem dX11_worthOf_111 : decode cX11_worthOf 111 = .ok (.aload_n 0, 1) := by decide +kernel
theorem dX11_worthOf_112 : decode cX11_worthOf 112 = .ok (.getfield 289, 3) := by decide +kernel
theorem dX11_worthOf_115 : decode cX11_worthOf 115 = .ok (.iload 6, 2) := by decide +kernel
theorem dX11_worthOf_117 : decode cX11_worthOf 117 = .ok (.iconst 1, 1) := by decide +kernel
theorem dX11_worthOf_118 : decode cX11_worthOf 118 = .ok (.isub, 1) := by decide +kernel
theorem dX11_worthOf_119 : decode cX11_worthOf 119 = .ok (.iaload, 1) := by decide +kernel
theorem dX11_worthOf_120 : decode cX11_worthOf 120 = .ok (.ifCond .ne 7, 3) := by decide +kernel
theorem dX11_worthOf_123 : decode cX11_worthOf 123 = .ok (.iconst 1, 1) := by decide +kernel
theorem dX11_worthOf_124 : decode cX11_worthOf 124 = .ok (.goto 4, 3) := by decide +kernel
theorem dX11_worthOf_127 : decode cX11_worthOf 127 = .ok (.iconst 0, 1) := by decide +kernel
theorem dX11_worthOf_128 : decode cX11_worthOf 128 = .ok (.iastore, 1) := by decide +kernel
theorem dX11_worthOf_129 : decode cX11_worthOf 129 = .ok (.goto 65, 3) := by decide +kernel
theorem dX11_worthOf_132 : decode cX11_worthOf 132 = .ok (.iload 8, 2) := by decide +kernel
theorem dX11_worthOf_134 : decode cX11_worthOf 134 = .ok (.bipush 14, 2) := by decide +kernel
theorem dX11_worthOf_136 : decode cX11_worthOf 136 = .ok (.if_icmp .ne 25, 3) := by decide +kernel
theorem dX11_worthOf_139 : decode cX11_worthOf 139 = .ok (.aload_n 0, 1) := by decide +kernel
theorem dX11_worthOf_140 : decode cX11_worthOf 140 = .ok (.getfield 289, 3) := by decide +kernel
theorem dX11_worthOf_143 : decode cX11_worthOf 143 = .ok (.iload 6, 2) := by decide +kernel
theorem dX11_worthOf_145 : decode cX11_worthOf 145 = .ok (.iconst 1, 1) := by decide +kernel
theorem dX11_worthOf_146 : decode cX11_worthOf 146 = .ok (.isub, 1) := by decide +kernel
theorem dX11_worthOf_147 : decode cX11_worthOf 147 = .ok (.aload_n 0, 1) := by decide +kernel
theorem dX11_worthOf_148 : decode cX11_worthOf 148 = .ok (.getfield 289, 3) := by decide +kernel
theorem dX11_worthOf_151 : decode cX11_worthOf 151 = .ok (.iload 6, 2) := by decide +kernel
theorem dX11_worthOf_153 : decode cX11_worthOf 153 = .ok (.iconst 1, 1) := by decide +kernel
theorem dX11_worthOf_154 : decode cX11_worthOf 154 = .ok (.isub, 1) := by decide +kernel
theorem dX11_worthOf_155 : decode cX11_worthOf 155 = .ok (.iaload, 1) := by decide +kernel
theorem dX11_worthOf_156 : decode cX11_worthOf 156 = .ok (.ineg, 1) := by decide +kernel
theorem dX11_worthOf_157 : decode cX11_worthOf 157 = .ok (.iastore, 1) := by decide +kernel
theorem dX11_worthOf_158 : decode cX11_worthOf 158 = .ok (.goto 36, 3) := by decide +kernel
theorem dX11_worthOf_161 : decode cX11_worthOf 161 = .ok (.iinc 6 (-1), 3) := by decide +kernel
theorem dX11_worthOf_164 : decode cX11_worthOf 164 = .ok (.aload_n 0, 1) := by decide +kernel
theorem dX11_worthOf_165 : decode cX11_worthOf 165 = .ok (.getfield 289, 3) := by decide +kernel
theorem dX11_worthOf_168 : decode cX11_worthOf 168 = .ok (.iload 6, 2) := by decide +kernel
theorem dX11_worthOf_170 : decode cX11_worthOf 170 = .ok (.iconst 1, 1) := by decide +kernel
theorem dX11_worthOf_171 : decode cX11_worthOf 171 = .ok (.isub, 1) := by decide +kernel
theorem dX11_worthOf_172 : decode cX11_worthOf 172 = .ok (.iload 8, 2) := by decide +kernel
theorem dX11_worthOf_174 : decode cX11_worthOf 174 = .ok (.aload_n 0, 1) := by decide +kernel
theorem dX11_worthOf_175 : decode cX11_worthOf 175 = .ok (.getfield 289, 3) := by decide +kernel
theorem dX11_worthOf_178 : decode cX11_worthOf 178 = .ok (.iload 6, 2) := by decide +kernel
theorem dX11_worthOf_180 : decode cX11_worthOf 180 = .ok (.iconst 1, 1) := by decide +kernel
theorem dX11_worthOf_181 : decode cX11_worthOf 181 = .ok (.isub, 1) := by decide +kernel
theorem dX11_worthOf_182 : decode cX11_worthOf 182 = .ok (.iaload, 1) := by decide +kernel
theorem dX11_worthOf_183 : decode cX11_worthOf 183 = .ok (.aload_n 0, 1) := by decide +kernel
theorem dX11_worthOf_184 : decode cX11_worthOf 184 = .ok (.getfield 289, 3) := by decide +kernel
theorem dX11_worthOf_187 : decode cX11_worthOf 187 = .ok (.iload 6, 2) := by decide +kernel
theorem dX11_worthOf_189 : decode cX11_worthOf 189 = .ok (.iaload, 1) := by decide +kernel
theorem dX11_worthOf_190 : decode cX11_worthOf 190 = .ok (.invokestatic 296, 3) := by decide +kernel
theorem dX11_worthOf_193 : decode cX11_worthOf 193 = .ok (.iastore, 1) := by decide +kernel
theorem dX11_worthOf_194 : decode cX11_worthOf 194 = .ok (.iinc 7 1, 3) := by decide +kernel
theorem dX11_worthOf_197 : decode cX11_worthOf 197 = .ok (.goto (-181), 3) := by decide +kernel
theorem dX11_worthOf_200 : decode cX11_worthOf 200 = .ok (.aload_n 0, 1) := by decide +kernel
theorem dX11_worthOf_201 : decode cX11_worthOf 201 = .ok (.getfield 289, 3) := by decide +kernel
theorem dX11_worthOf_204 : decode cX11_worthOf 204 = .ok (.iconst 0, 1) := by decide +kernel
theorem dX11_worthOf_205 : decode cX11_worthOf 205 = .ok (.iaload, 1) := by decide +kernel
theorem dX11_worthOf_206 : decode cX11_worthOf 206 = .ok (.ireturn, 1) := by decide +kernel
theorem dX11_says_0 : decode cX11_says 0 = .ok (.aload_n 0, 1) := by decide +kernel
theorem dX11_says_1 : decode cX11_says 1 = .ok (.iload_n 1, 1) := by decide +kernel
theorem dX11_says_2 : decode cX11_says 2 = .ok (.invokevirtual 42, 3) := by decide +kernel
theorem dX11_says_5 : decode cX11_says 5 = .ok (.ifCond .eq 31, 3) := by decide +kernel
theorem dX11_says_8 : decode cX11_says 8 = .ok (.iload_n 2, 1) := by decide +kernel
theorem dX11_says_9 : decode cX11_says 9 = .ok (.i2l, 1) := by decide +kernel
theorem dX11_says_10 : decode cX11_says 10 = .ok (.lconst 0, 1) := by decide +kernel
theorem dX11_says_11 : decode cX11_says 11 = .ok (.lconst 1, 1) := by decide +kernel
theorem dX11_says_12 : decode cX11_says 12 = .ok (.invokestatic 18, 3) := by decide +kernel
theorem dX11_says_15 : decode cX11_says 15 = .ok (.ifCond .eq 21, 3) := by decide +kernel
theorem dX11_says_18 : decode cX11_says 18 = .ok (.aload_n 0, 1) := by decide +kernel
theorem dX11_says_19 : decode cX11_says 19 = .ok (.iload_n 2, 1) := by decide +kernel
theorem dX11_says_20 : decode cX11_says 20 = .ok (.iload_n 1, 1) := by decide +kernel
theorem dX11_says_21 : decode cX11_says 21 = .ok (.aload_n 0, 1) := by decide +kernel
theorem dX11_says_22 : decode cX11_says 22 = .ok (.getfield 99, 3) := by decide +kernel
theorem dX11_says_25 : decode cX11_says 25 = .ok (.aload_n 0, 1) := by decide +kernel
theorem dX11_says_26 : decode cX11_says 26 = .ok (.getfield 26, 3) := by decide +kernel
theorem dX11_says_29 : decode cX11_says 29 = .ok (.invokevirtual 299, 3) := by decide +kernel
theorem dX11_says_32 : decode cX11_says 32 = .ok (.i2l, 1) := by decide +kernel
theorem dX11_says_33 : decode cX11_says 33 = .ok (.goto 6, 3) := by decide +kernel
theorem dX11_says_36 : decode cX11_says 36 = .ok (.ldc2_w 302, 3) := by decide +kernel
theorem dX11_says_39 : decode cX11_says 39 = .ok (.lreturn, 1) := by decide +kernel
theorem dX11_init_0 : decode cX11_init 0 = .ok (.aload_n 0, 1) := by decide +kernel
theorem dX11_init_1 : decode cX11_init 1 = .ok (.invokespecial 304, 3) := by decide +kernel
theorem dX11_init_4 : decode cX11_init 4 = .ok (.aload_n 0, 1) := by decide +kernel
theorem dX11_init_5 : decode cX11_init 5 = .ok (.bipush 30, 2) := by decide +kernel
theorem dX11_init_7 : decode cX11_init 7 = .ok (.putfield 136, 3) := by decide +kernel
theorem dX11_init_10 : decode cX11_init 10 = .ok (.aload_n 0, 1) := by decide +kernel
theorem dX11_init_11 : decode cX11_init 11 = .ok (.bipush 6, 2) := by decide +kernel
theorem dX11_init_13 : decode cX11_init 13 = .ok (.newarray .int, 2) := by decide +kernel
theorem dX11_init_15 : decode cX11_init 15 = .ok (.putfield 29, 3) := by decide +kernel
theorem dX11_init_18 : decode cX11_init 18 = .ok (.aload_n 0, 1) := by decide +kernel
theorem dX11_init_19 : decode cX11_init 19 = .ok (.bipush 6, 2) := by decide +kernel
theorem dX11_init_21 : decode cX11_init 21 = .ok (.newarray .int, 2) := by decide +kernel
theorem dX11_init_23 : decode cX11_init 23 = .ok (.putfield 33, 3) := by decide +kernel
theorem dX11_init_26 : decode cX11_init 26 = .ok (.aload_n 0, 1) := by decide +kernel
theorem dX11_init_27 : decode cX11_init 27 = .ok (.bipush 6, 2) := by decide +kernel
theorem dX11_init_29 : decode cX11_init 29 = .ok (.newarray .int, 2) := by decide +kernel
theorem dX11_init_31 : decode cX11_init 31 = .ok (.putfield 93, 3) := by decide +kernel
theorem dX11_init_34 : decode cX11_init 34 = .ok (.aload_n 0, 1) := by decide +kernel
theorem dX11_init_35 : decode cX11_init 35 = .ok (.bipush 6, 2) := by decide +kernel
theorem dX11_init_37 : decode cX11_init 37 = .ok (.newarray .int, 2) := by decide +kernel
theorem dX11_init_39 : decode cX11_init 39 = .ok (.putfield 36, 3) := by decide +kernel
theorem dX11_init_42 : decode cX11_init 42 = .ok (.aload_n 0, 1) := by decide +kernel
theorem dX11_init_43 : decode cX11_init 43 = .ok (.bipush 6, 2) := by decide +kernel
theorem dX11_init_45 : decode cX11_init 45 = .ok (.newarray .int, 2) := by decide +kernel
theorem dX11_init_47 : decode cX11_init 47 = .ok (.dup, 1) := by decide +kernel
theorem dX11_init_48 : decode cX11_init 48 = .ok (.iconst 0, 1) := by decide +kernel
theorem dX11_init_49 : decode cX11_init 49 = .ok (.iconst (-1), 1) := by decide +kernel
theorem dX11_init_50 : decode cX11_init 50 = .ok (.iastore, 1) := by decide +kernel
theorem dX11_init_51 : decode cX11_init 51 = .ok (.dup, 1) := by decide +kernel
theorem dX11_init_52 : decode cX11_init 52 = .ok (.iconst 1, 1) := by decide +kernel
theorem dX11_init_53 : decode cX11_init 53 = .ok (.iconst (-1), 1) := by decide +kernel
theorem dX11_init_54 : decode cX11_init 54 = .ok (.iastore, 1) := by decide +kernel
theorem dX11_init_55 : decode cX11_init 55 = .ok (.dup, 1) := by decide +kernel
theorem dX11_init_56 : decode cX11_init 56 = .ok (.iconst 2, 1) := by decide +kernel
theorem dX11_init_57 : decode cX11_init 57 = .ok (.iconst (-1), 1) := by decide +kernel
theorem dX11_init_58 : decode cX11_init 58 = .ok (.iastore, 1) := by decide +kernel
theorem dX11_init_59 : decode cX11_init 59 = .ok (.dup, 1) := by decide +kernel
theorem dX11_init_60 : decode cX11_init 60 = .ok (.iconst 3, 1) := by decide +kernel
theorem dX11_init_61 : decode cX11_init 61 = .ok (.iconst (-1), 1) := by decide +kernel
theorem dX11_init_62 : decode cX11_init 62 = .ok (.iastore, 1) := by decide +kernel
theorem dX11_init_63 : decode cX11_init 63 = .ok (.dup, 1) := by decide +kernel
theorem dX11_init_64 : decode cX11_init 64 = .ok (.iconst 4, 1) := by decide +kernel
theorem dX11_init_65 : decode cX11_init 65 = .ok (.iconst (-1), 1) := by decide +kernel
theorem dX11_init_66 : decode cX11_init 66 = .ok (.iastore, 1) := by decide +kernel
theorem dX11_init_67 : decode cX11_init 67 = .ok (.dup, 1) := by decide +kernel
theorem dX11_init_68 : decode cX11_init 68 = .ok (.iconst 5, 1) := by decide +kernel
theorem dX11_init_69 : decode cX11_init 69 = .ok (.iconst (-1), 1) := by decide +kernel
theorem dX11_init_70 : decode cX11_init 70 = .ok (.iastore, 1) := by decide +kernel
theorem dX11_init_71 : decode cX11_init 71 = .ok (.putfield 96, 3) := by decide +kernel
theorem dX11_init_74 : decode cX11_init 74 = .ok (.aload_n 0, 1) := by decide +kernel
theorem dX11_init_75 : decode cX11_init 75 = .ok (.bipush 6, 2) := by decide +kernel
theorem dX11_init_77 : decode cX11_init 77 = .ok (.newarray .int, 2) := by decide +kernel
theorem dX11_init_79 : decode cX11_init 79 = .ok (.dup, 1) := by decide +kernel
theorem dX11_init_80 : decode cX11_init 80 = .ok (.iconst 0, 1) := by decide +kernel
theorem dX11_init_81 : decode cX11_init 81 = .ok (.iconst (-1), 1) := by decide +kernel
theorem dX11_init_82 : decode cX11_init 82 = .ok (.iastore, 1) := by decide +kernel
theorem dX11_init_83 : decode cX11_init 83 = .ok (.dup, 1) := by decide +kernel
theorem dX11_init_84 : decode cX11_init 84 = .ok (.iconst 1, 1) := by decide +kernel
theorem dX11_init_85 : decode cX11_init 85 = .ok (.iconst (-1), 1) := by decide +kernel
theorem dX11_init_86 : decode cX11_init 86 = .ok (.iastore, 1) := by decide +kernel
theorem dX11_init_87 : decode cX11_init 87 = .ok (.dup, 1) := by decide +kernel
theorem dX11_init_88 : decode cX11_init 88 = .ok (.iconst 2, 1) := by decide +kernel
theorem dX11_init_89 : decode cX11_init 89 = .ok (.iconst (-1), 1) := by decide +kernel
theorem dX11_init_90 : decode cX11_init 90 = .ok (.iastore, 1) := by decide +kernel
theorem dX11_init_91 : decode cX11_init 91 = .ok (.dup, 1) := by decide +kernel
theorem dX11_init_92 : decode cX11_init 92 = .ok (.iconst 3, 1) := by decide +kernel
theorem dX11_init_93 : decode cX11_init 93 = .ok (.iconst (-1), 1) := by decide +kernel
theorem dX11_init_94 : decode cX11_init 94 = .ok (.iastore, 1) := by decide +kernel
theorem dX11_init_95 : decode cX11_init 95 = .ok (.dup, 1) := by decide +kernel
theorem dX11_init_96 : decode cX11_init 96 = .ok (.iconst 4, 1) := by decide +kernel
theorem dX11_init_97 : decode cX11_init 97 = .ok (.iconst (-1), 1) := by decide +kernel
theorem dX11_init_98 : decode cX11_init 98 = .ok (.iastore, 1) := by decide +kernel
theorem dX11_init_99 : decode cX11_init 99 = .ok (.dup, 1) := by decide +kernel
theorem dX11_init_100 : decode cX11_init 100 = .ok (.iconst 5, 1) := by decide +kernel
theorem dX11_init_101 : decode cX11_init 101 = .ok (.iconst (-1), 1) := by decide +kernel
theorem dX11_init_102 : decode cX11_init 102 = .ok (.iastore, 1) := by decide +kernel
theorem dX11_init_103 : decode cX11_init 103 = .ok (.putfield 74, 3) := by decide +kernel
theorem dX11_init_106 : decode cX11_init 106 = .ok (.aload_n 0, 1) := by decide +kernel
theorem dX11_init_107 : decode cX11_init 107 = .ok (.iconst 3, 1) := by decide +kernel
theorem dX11_init_108 : decode cX11_init 108 = .ok (.newarray .int, 2) := by decide +kernel
theorem dX11_init_110 : decode cX11_init 110 = .ok (.putfield 39, 3) := by decide +kernel
theorem dX11_init_113 : decode cX11_init 113 = .ok (.aload_n 0, 1) := by decide +kernel
theorem dX11_init_114 : decode cX11_init 114 = .ok (.iconst 3, 1) := by decide +kernel
theorem dX11_init_115 : decode cX11_init 115 = .ok (.newarray .int, 2) := by decide +kernel
theorem dX11_init_117 : decode cX11_init 117 = .ok (.putfield 106, 3) := by decide +kernel
theorem dX11_init_120 : decode cX11_init 120 = .ok (.aload_n 0, 1) := by decide +kernel
theorem dX11_init_121 : decode cX11_init 121 = .ok (.iconst 3, 1) := by decide +kernel
theorem dX11_init_122 : decode cX11_init 122 = .ok (.newarray .int, 2) := by decide +kernel
theorem dX11_init_124 : decode cX11_init 124 = .ok (.putfield 109, 3) := by decide +kernel
theorem dX11_init_127 : decode cX11_init 127 = .ok (.aload_n 0, 1) := by decide +kernel
theorem dX11_init_128 : decode cX11_init 128 = .ok (.bipush 14, 2) := by decide +kernel
theorem dX11_init_130 : decode cX11_init 130 = .ok (.newarray .int, 2) := by decide +kernel
theorem dX11_init_132 : decode cX11_init 132 = .ok (.putfield 56, 3) := by decide +kernel
theorem dX11_init_135 : decode cX11_init 135 = .ok (.aload_n 0, 1) := by decide +kernel
theorem dX11_init_136 : decode cX11_init 136 = .ok (.bipush 14, 2) := by decide +kernel
theorem dX11_init_138 : decode cX11_init 138 = .ok (.newarray .int, 2) := by decide +kernel
theorem dX11_init_140 : decode cX11_init 140 = .ok (.putfield 59, 3) := by decide +kernel
theorem dX11_init_143 : decode cX11_init 143 = .ok (.aload_n 0, 1) := by decide +kernel
theorem dX11_init_144 : decode cX11_init 144 = .ok (.bipush 14, 2) := by decide +kernel
theorem dX11_init_146 : decode cX11_init 146 = .ok (.newarray .int, 2) := by decide +kernel
theorem dX11_init_148 : decode cX11_init 148 = .ok (.putfield 62, 3) := by decide +kernel
theorem dX11_init_151 : decode cX11_init 151 = .ok (.aload_n 0, 1) := by decide +kernel
theorem dX11_init_152 : decode cX11_init 152 = .ok (.bipush 14, 2) := by decide +kernel
theorem dX11_init_154 : decode cX11_init 154 = .ok (.newarray .int, 2) := by decide +kernel
theorem dX11_init_156 : decode cX11_init 156 = .ok (.putfield 65, 3) := by decide +kernel
theorem dX11_init_159 : decode cX11_init 159 = .ok (.aload_n 0, 1) := by decide +kernel
theorem dX11_init_160 : decode cX11_init 160 = .ok (.bipush 14, 2) := by decide +kernel
theorem dX11_init_162 : decode cX11_init 162 = .ok (.newarray .int, 2) := by decide +kernel
theorem dX11_init_164 : decode cX11_init 164 = .ok (.putfield 68, 3) := by decide +kernel
theorem dX11_init_167 : decode cX11_init 167 = .ok (.aload_n 0, 1) := by decide +kernel
theorem dX11_init_168 : decode cX11_init 168 = .ok (.iconst 4, 1) := by decide +kernel
theorem dX11_init_169 : decode cX11_init 169 = .ok (.newarray .int, 2) := by decide +kernel
theorem dX11_init_171 : decode cX11_init 171 = .ok (.putfield 79, 3) := by decide +kernel
theorem dX11_init_174 : decode cX11_init 174 = .ok (.aload_n 0, 1) := by decide +kernel
theorem dX11_init_175 : decode cX11_init 175 = .ok (.iconst 4, 1) := by decide +kernel
theorem dX11_init_176 : decode cX11_init 176 = .ok (.newarray .int, 2) := by decide +kernel
theorem dX11_init_178 : decode cX11_init 178 = .ok (.putfield 82, 3) := by decide +kernel
theorem dX11_init_181 : decode cX11_init 181 = .ok (.aload_n 0, 1) := by decide +kernel
theorem dX11_init_182 : decode cX11_init 182 = .ok (.iconst 4, 1) := by decide +kernel
theorem dX11_init_183 : decode cX11_init 183 = .ok (.newarray .int, 2) := by decide +kernel
theorem dX11_init_185 : decode cX11_init 185 = .ok (.putfield 85, 3) := by decide +kernel
theorem dX11_init_188 : decode cX11_init 188 = .ok (.aload_n 0, 1) := by decide +kernel
theorem dX11_init_189 : decode cX11_init 189 = .ok (.iconst 4, 1) := by decide +kernel
theorem dX11_init_190 : decode cX11_init 190 = .ok (.newarray .int, 2) := by decide +kernel
theorem dX11_init_192 : decode cX11_init 192 = .ok (.putfield 88, 3) := by decide +kernel
theorem dX11_init_195 : decode cX11_init 195 = .ok (.aload_n 0, 1) := by decide +kernel
theorem dX11_init_196 : decode cX11_init 196 = .ok (.iconst 4, 1) := by decide +kernel
theorem dX11_init_197 : decode cX11_init 197 = .ok (.newarray .int, 2) := by decide +kernel
theorem dX11_init_199 : decode cX11_init 199 = .ok (.dup, 1) := by decide +kernel
theorem dX11_init_200 : decode cX11_init 200 = .ok (.iconst 0, 1) := by decide +kernel
theorem dX11_init_201 : decode cX11_init 201 = .ok (.iconst (-1), 1) := by decide +kernel
theorem dX11_init_202 : decode cX11_init 202 = .ok (.iastore, 1) := by decide +kernel
theorem dX11_init_203 : decode cX11_init 203 = .ok (.dup, 1) := by decide +kernel
theorem dX11_init_204 : decode cX11_init 204 = .ok (.iconst 1, 1) := by decide +kernel
theorem dX11_init_205 : decode cX11_init 205 = .ok (.iconst (-1), 1) := by decide +kernel
theorem dX11_init_206 : decode cX11_init 206 = .ok (.iastore, 1) := by decide +kernel
theorem dX11_init_207 : decode cX11_init 207 = .ok (.dup, 1) := by decide +kernel
theorem dX11_init_208 : decode cX11_init 208 = .ok (.iconst 2, 1) := by decide +kernel
theorem dX11_init_209 : decode cX11_init 209 = .ok (.iconst (-1), 1) := by decide +kernel
theorem dX11_init_210 : decode cX11_init 210 = .ok (.iastore, 1) := by decide +kernel
theorem dX11_init_211 : decode cX11_init 211 = .ok (.dup, 1) := by decide +kernel
theorem dX11_init_212 : decode cX11_init 212 = .ok (.iconst 3, 1) := by decide +kernel
theorem dX11_init_213 : decode cX11_init 213 = .ok (.iconst (-1), 1) := by decide +kernel
theorem dX11_init_214 : decode cX11_init 214 = .ok (.iastore, 1) := by decide +kernel
theorem dX11_init_215 : decode cX11_init 215 = .ok (.putfield 125, 3) := by decide +kernel
theorem dX11_init_218 : decode cX11_init 218 = .ok (.aload_n 0, 1) := by decide +kernel
theorem dX11_init_219 : decode cX11_init 219 = .ok (.iconst 4, 1) := by decide +kernel
theorem dX11_init_220 : decode cX11_init 220 = .ok (.newarray .int, 2) := by decide +kernel
theorem dX11_init_222 : decode cX11_init 222 = .ok (.putfield 128, 3) := by decide +kernel
theorem dX11_init_225 : decode cX11_init 225 = .ok (.aload_n 0, 1) := by decide +kernel
theorem dX11_init_226 : decode cX11_init 226 = .ok (.iconst 3, 1) := by decide +kernel
theorem dX11_init_227 : decode cX11_init 227 = .ok (.newarray .int, 2) := by decide +kernel
theorem dX11_init_229 : decode cX11_init 229 = .ok (.dup, 1) := by decide +kernel
theorem dX11_init_230 : decode cX11_init 230 = .ok (.iconst 0, 1) := by decide +kernel
theorem dX11_init_231 : decode cX11_init 231 = .ok (.iconst 1, 1) := by decide +kernel
theorem dX11_init_232 : decode cX11_init 232 = .ok (.iastore, 1) := by decide +kernel
theorem dX11_init_233 : decode cX11_init 233 = .ok (.dup, 1) := by decide +kernel
theorem dX11_init_234 : decode cX11_init 234 = .ok (.iconst 1, 1) := by decide +kernel
theorem dX11_init_235 : decode cX11_init 235 = .ok (.iconst 0, 1) := by decide +kernel
theorem dX11_init_236 : decode cX11_init 236 = .ok (.iastore, 1) := by decide +kernel
theorem dX11_init_237 : decode cX11_init 237 = .ok (.dup, 1) := by decide +kernel
theorem dX11_init_238 : decode cX11_init 238 = .ok (.iconst 2, 1) := by decide +kernel
theorem dX11_init_239 : decode cX11_init 239 = .ok (.iconst 0, 1) := by decide +kernel
theorem dX11_init_240 : decode cX11_init 240 = .ok (.iastore, 1) := by decide +kernel
theorem dX11_init_241 : decode cX11_init 241 = .ok (.putfield 142, 3) := by decide +kernel
theorem dX11_init_244 : decode cX11_init 244 = .ok (.aload_n 0, 1) := by decide +kernel
theorem dX11_init_245 : decode cX11_init 245 = .ok (.bipush 40, 2) := by decide +kernel
theorem dX11_init_247 : decode cX11_init 247 = .ok (.newarray .int, 2) := by decide +kernel
theorem dX11_init_249 : decode cX11_init 249 = .ok (.putfield 150, 3) := by decide +kernel
theorem dX11_init_252 : decode cX11_init 252 = .ok (.aload_n 0, 1) := by decide +kernel
theorem dX11_init_253 : decode cX11_init 253 = .ok (.bipush 40, 2) := by decide +kernel
theorem dX11_init_255 : decode cX11_init 255 = .ok (.newarray .int, 2) := by decide +kernel
theorem dX11_init_257 : decode cX11_init 257 = .ok (.putfield 153, 3) := by decide +kernel
theorem dX11_init_260 : decode cX11_init 260 = .ok (.aload_n 0, 1) := by decide +kernel
theorem dX11_init_261 : decode cX11_init 261 = .ok (.bipush 40, 2) := by decide +kernel
theorem dX11_init_263 : decode cX11_init 263 = .ok (.newarray .int, 2) := by decide +kernel
theorem dX11_init_265 : decode cX11_init 265 = .ok (.putfield 156, 3) := by decide +kernel
theorem dX11_init_268 : decode cX11_init 268 = .ok (.aload_n 0, 1) := by decide +kernel
theorem dX11_init_269 : decode cX11_init 269 = .ok (.bipush 40, 2) := by decide +kernel
theorem dX11_init_271 : decode cX11_init 271 = .ok (.newarray .int, 2) := by decide +kernel
theorem dX11_init_273 : decode cX11_init 273 = .ok (.putfield 159, 3) := by decide +kernel
theorem dX11_init_276 : decode cX11_init 276 = .ok (.aload_n 0, 1) := by decide +kernel
theorem dX11_init_277 : decode cX11_init 277 = .ok (.bipush 40, 2) := by decide +kernel
theorem dX11_init_279 : decode cX11_init 279 = .ok (.newarray .int, 2) := by decide +kernel
theorem dX11_init_281 : decode cX11_init 281 = .ok (.putfield 162, 3) := by decide +kernel
theorem dX11_init_284 : decode cX11_init 284 = .ok (.aload_n 0, 1) := by decide +kernel
theorem dX11_init_285 : decode cX11_init 285 = .ok (.bipush 40, 2) := by decide +kernel
theorem dX11_init_287 : decode cX11_init 287 = .ok (.newarray .int, 2) := by decide +kernel
theorem dX11_init_289 : decode cX11_init 289 = .ok (.putfield 165, 3) := by decide +kernel
theorem dX11_init_292 : decode cX11_init 292 = .ok (.aload_n 0, 1) := by decide +kernel
theorem dX11_init_293 : decode cX11_init 293 = .ok (.sipush 183, 3) := by decide +kernel
theorem dX11_init_296 : decode cX11_init 296 = .ok (.newarray .int, 2) := by decide +kernel
theorem dX11_init_298 : decode cX11_init 298 = .ok (.putfield 131, 3) := by decide +kernel
theorem dX11_init_301 : decode cX11_init 301 = .ok (.aload_n 0, 1) := by decide +kernel
theorem dX11_init_302 : decode cX11_init 302 = .ok (.sipush 183, 3) := by decide +kernel
theorem dX11_init_305 : decode cX11_init 305 = .ok (.newarray .int, 2) := by decide +kernel
theorem dX11_init_307 : decode cX11_init 307 = .ok (.putfield 168, 3) := by decide +kernel
theorem dX11_init_310 : decode cX11_init 310 = .ok (.aload_n 0, 1) := by decide +kernel
theorem dX11_init_311 : decode cX11_init 311 = .ok (.sipush 160, 3) := by decide +kernel
theorem dX11_init_314 : decode cX11_init 314 = .ok (.newarray .byte, 2) := by decide +kernel
theorem dX11_init_316 : decode cX11_init 316 = .ok (.putfield 180, 3) := by decide +kernel
theorem dX11_init_319 : decode cX11_init 319 = .ok (.aload_n 0, 1) := by decide +kernel
theorem dX11_init_320 : decode cX11_init 320 = .ok (.sipush 1920, 3) := by decide +kernel
theorem dX11_init_323 : decode cX11_init 323 = .ok (.newarray .int, 2) := by decide +kernel
theorem dX11_init_325 : decode cX11_init 325 = .ok (.putfield 216, 3) := by decide +kernel
theorem dX11_init_328 : decode cX11_init 328 = .ok (.aload_n 0, 1) := by decide +kernel
theorem dX11_init_329 : decode cX11_init 329 = .ok (.bipush 12, 2) := by decide +kernel
theorem dX11_init_331 : decode cX11_init 331 = .ok (.newarray .int, 2) := by decide +kernel
theorem dX11_init_333 : decode cX11_init 333 = .ok (.putfield 264, 3) := by decide +kernel
theorem dX11_init_336 : decode cX11_init 336 = .ok (.aload_n 0, 1) := by decide +kernel
theorem dX11_init_337 : decode cX11_init 337 = .ok (.bipush 44, 2) := by decide +kernel
theorem dX11_init_339 : decode cX11_init 339 = .ok (.newarray .char, 2) := by decide +kernel
theorem dX11_init_341 : decode cX11_init 341 = .ok (.dup, 1) := by decide +kernel
theorem dX11_init_342 : decode cX11_init 342 = .ok (.iconst 0, 1) := by decide +kernel
theorem dX11_init_343 : decode cX11_init 343 = .ok (.bipush 115, 2) := by decide +kernel
theorem dX11_init_345 : decode cX11_init 345 = .ok (.castore, 1) := by decide +kernel
theorem dX11_init_346 : decode cX11_init 346 = .ok (.dup, 1) := by decide +kernel
theorem dX11_init_347 : decode cX11_init 347 = .ok (.iconst 1, 1) := by decide +kernel
theorem dX11_init_348 : decode cX11_init 348 = .ok (.bipush 105, 2) := by decide +kernel
theorem dX11_init_350 : decode cX11_init 350 = .ok (.castore, 1) := by decide +kernel
theorem dX11_init_351 : decode cX11_init 351 = .ok (.dup, 1) := by decide +kernel
theorem dX11_init_352 : decode cX11_init 352 = .ok (.iconst 2, 1) := by decide +kernel
theorem dX11_init_353 : decode cX11_init 353 = .ok (.bipush 110, 2) := by decide +kernel
theorem dX11_init_355 : decode cX11_init 355 = .ok (.castore, 1) := by decide +kernel
theorem dX11_init_356 : decode cX11_init 356 = .ok (.dup, 1) := by decide +kernel
theorem dX11_init_357 : decode cX11_init 357 = .ok (.iconst 3, 1) := by decide +kernel
theorem dX11_init_358 : decode cX11_init 358 = .ok (.bipush 99, 2) := by decide +kernel
theorem dX11_init_360 : decode cX11_init 360 = .ok (.castore, 1) := by decide +kernel
theorem dX11_init_361 : decode cX11_init 361 = .ok (.dup, 1) := by decide +kernel
theorem dX11_init_362 : decode cX11_init 362 = .ok (.iconst 4, 1) := by decide +kernel
theorem dX11_init_363 : decode cX11_init 363 = .ok (.bipush 101, 2) := by decide +kernel
theorem dX11_init_365 : decode cX11_init 365 = .ok (.castore, 1) := by decide +kernel
theorem dX11_init_366 : decode cX11_init 366 = .ok (.dup, 1) := by decide +kernel
theorem dX11_init_367 : decode cX11_init 367 = .ok (.iconst 5, 1) := by decide +kernel
theorem dX11_init_368 : decode cX11_init 368 = .ok (.bipush 104, 2) := by decide +kernel
theorem dX11_init_370 : decode cX11_init 370 = .ok (.castore, 1) := by decide +kernel
theorem dX11_init_371 : decode cX11_init 371 = .ok (.dup, 1) := by decide +kernel
theorem dX11_init_372 : decode cX11_init 372 = .ok (.bipush 6, 2) := by decide +kernel
theorem dX11_init_374 : decode cX11_init 374 = .ok (.bipush 101, 2) := by decide +kernel
theorem dX11_init_376 : decode cX11_init 376 = .ok (.castore, 1) := by decide +kernel
theorem dX11_init_377 : decode cX11_init 377 = .ok (.dup, 1) := by decide +kernel
theorem dX11_init_378 : decode cX11_init 378 = .ok (.bipush 7, 2) := by decide +kernel
theorem dX11_init_380 : decode cX11_init 380 = .ok (.bipush 105, 2) := by decide +kernel
theorem dX11_init_382 : decode cX11_init 382 = .ok (.castore, 1) := by decide +kernel
theorem dX11_init_383 : decode cX11_init 383 = .ok (.dup, 1) := by decide +kernel
theorem dX11_init_384 : decode cX11_init 384 = .ok (.bipush 8, 2) := by decide +kernel
theorem dX11_init_386 : decode cX11_init 386 = .ok (.bipush 103, 2) := by decide +kernel
theorem dX11_init_388 : decode cX11_init 388 = .ok (.castore, 1) := by decide +kernel
theorem dX11_init_389 : decode cX11_init 389 = .ok (.dup, 1) := by decide +kernel
theorem dX11_init_390 : decode cX11_init 390 = .ok (.bipush 9, 2) := by decide +kernel
theorem dX11_init_392 : decode cX11_init 392 = .ok (.bipush 104, 2) := by decide +kernel
theorem dX11_init_394 : decode cX11_init 394 = .ok (.castore, 1) := by decide +kernel
theorem dX11_init_395 : decode cX11_init 395 = .ok (.dup, 1) := by decide +kernel
theorem dX11_init_396 : decode cX11_init 396 = .ok (.bipush 10, 2) := by decide +kernel
theorem dX11_init_398 : decode cX11_init 398 = .ok (.bipush 116, 2) := by decide +kernel
theorem dX11_init_400 : decode cX11_init 400 = .ok (.castore, 1) := by decide +kernel
theorem dX11_init_401 : decode cX11_init 401 = .ok (.dup, 1) := by decide +kernel
theorem dX11_init_402 : decode cX11_init 402 = .ok (.bipush 11, 2) := by decide +kernel
theorem dX11_init_404 : decode cX11_init 404 = .ok (.bipush 119, 2) := by decide +kernel
theorem dX11_init_406 : decode cX11_init 406 = .ok (.castore, 1) := by decide +kernel
theorem dX11_init_407 : decode cX11_init 407 = .ok (.dup, 1) := by decide +kernel
theorem dX11_init_408 : decode cX11_init 408 = .ok (.bipush 12, 2) := by decide +kernel
theorem dX11_init_410 : decode cX11_init 410 = .ok (.bipush 105, 2) := by decide +kernel
theorem dX11_init_412 : decode cX11_init 412 = .ok (.castore, 1) := by decide +kernel
theorem dX11_init_413 : decode cX11_init 413 = .ok (.dup, 1) := by decide +kernel
theorem dX11_init_414 : decode cX11_init 414 = .ok (.bipush 13, 2) := by decide +kernel
theorem dX11_init_416 : decode cX11_init 416 = .ok (.bipush 110, 2) := by decide +kernel
theorem dX11_init_418 : decode cX11_init 418 = .ok (.castore, 1) := by decide +kernel
theorem dX11_init_419 : decode cX11_init 419 = .ok (.dup, 1) := by decide +kernel
theorem dX11_init_420 : decode cX11_init 420 = .ok (.bipush 14, 2) := by decide +kernel
theorem dX11_init_422 : decode cX11_init 422 = .ok (.bipush 100, 2) := by decide +kernel
theorem dX11_init_424 : decode cX11_init 424 = .ok (.castore, 1) := by decide +kernel
theorem dX11_init_425 : decode cX11_init 425 = .ok (.dup, 1) := by decide +kernel
theorem dX11_init_426 : decode cX11_init 426 = .ok (.bipush 15, 2) := by decide +kernel
theorem dX11_init_428 : decode cX11_init 428 = .ok (.bipush 108, 2) := by decide +kernel
theorem dX11_init_430 : decode cX11_init 430 = .ok (.castore, 1) := by decide +kernel
theorem dX11_init_431 : decode cX11_init 431 = .ok (.dup, 1) := by decide +kernel
theorem dX11_init_432 : decode cX11_init 432 = .ok (.bipush 16, 2) := by decide +kernel
theorem dX11_init_434 : decode cX11_init 434 = .ok (.bipush 101, 2) := by decide +kernel
theorem dX11_init_436 : decode cX11_init 436 = .ok (.castore, 1) := by decide +kernel
theorem dX11_init_437 : decode cX11_init 437 = .ok (.dup, 1) := by decide +kernel
theorem dX11_init_438 : decode cX11_init 438 = .ok (.bipush 17, 2) := by decide +kernel
theorem dX11_init_440 : decode cX11_init 440 = .ok (.bipush 102, 2) := by decide +kernel
theorem dX11_init_442 : decode cX11_init 442 = .ok (.castore, 1) := by decide +kernel
theorem dX11_init_443 : decode cX11_init 443 = .ok (.dup, 1) := by decide +kernel
theorem dX11_init_444 : decode cX11_init 444 = .ok (.bipush 18, 2) := by decide +kernel
theorem dX11_init_446 : decode cX11_init 446 = .ok (.bipush 116, 2) := by decide +kernel
theorem dX11_init_448 : decode cX11_init 448 = .ok (.castore, 1) := by decide +kernel
theorem dX11_init_449 : decode cX11_init 449 = .ok (.dup, 1) := by decide +kernel
theorem dX11_init_450 : decode cX11_init 450 = .ok (.bipush 19, 2) := by decide +kernel
theorem dX11_init_452 : decode cX11_init 452 = .ok (.bipush 99, 2) := by decide +kernel
theorem dX11_init_454 : decode cX11_init 454 = .ok (.castore, 1) := by decide +kernel
theorem dX11_init_455 : decode cX11_init 455 = .ok (.dup, 1) := by decide +kernel
theorem dX11_init_456 : decode cX11_init 456 = .ok (.bipush 20, 2) := by decide +kernel
theorem dX11_init_458 : decode cX11_init 458 = .ok (.bipush 114, 2) := by decide +kernel
theorem dX11_init_460 : decode cX11_init 460 = .ok (.castore, 1) := by decide +kernel
theorem dX11_init_461 : decode cX11_init 461 = .ok (.dup, 1) := by decide +kernel
theorem dX11_init_462 : decode cX11_init 462 = .ok (.bipush 21, 2) := by decide +kernel
theorem dX11_init_464 : decode cX11_init 464 = .ok (.bipush 111, 2) := by decide +kernel
theorem dX11_init_466 : decode cX11_init 466 = .ok (.castore, 1) := by decide +kernel
theorem dX11_init_467 : decode cX11_init 467 = .ok (.dup, 1) := by decide +kernel
theorem dX11_init_468 : decode cX11_init 468 = .ok (.bipush 22, 2) := by decide +kernel
theorem dX11_init_470 : decode cX11_init 470 = .ok (.bipush 119, 2) := by decide +kernel
theorem dX11_init_472 : decode cX11_init 472 = .ok (.castore, 1) := by decide +kernel
theorem dX11_init_473 : decode cX11_init 473 = .ok (.dup, 1) := by decide +kernel
theorem dX11_init_474 : decode cX11_init 474 = .ok (.bipush 23, 2) := by decide +kernel
theorem dX11_init_476 : decode cX11_init 476 = .ok (.bipush 100, 2) := by decide +kernel
theorem dX11_init_478 : decode cX11_init 478 = .ok (.castore, 1) := by decide +kernel
theorem dX11_init_479 : decode cX11_init 479 = .ok (.dup, 1) := by decide +kernel
theorem dX11_init_480 : decode cX11_init 480 = .ok (.bipush 24, 2) := by decide +kernel
theorem dX11_init_482 : decode cX11_init 482 = .ok (.bipush 122, 2) := by decide +kernel
theorem dX11_init_484 : decode cX11_init 484 = .ok (.castore, 1) := by decide +kernel
theorem dX11_init_485 : decode cX11_init 485 = .ok (.dup, 1) := by decide +kernel
theorem dX11_init_486 : decode cX11_init 486 = .ok (.bipush 25, 2) := by decide +kernel
theorem dX11_init_488 : decode cX11_init 488 = .ok (.bipush 111, 2) := by decide +kernel
theorem dX11_init_490 : decode cX11_init 490 = .ok (.castore, 1) := by decide +kernel
theorem dX11_init_491 : decode cX11_init 491 = .ok (.dup, 1) := by decide +kernel
theorem dX11_init_492 : decode cX11_init 492 = .ok (.bipush 26, 2) := by decide +kernel
theorem dX11_init_494 : decode cX11_init 494 = .ok (.bipush 110, 2) := by decide +kernel
theorem dX11_init_496 : decode cX11_init 496 = .ok (.castore, 1) := by decide +kernel
theorem dX11_init_497 : decode cX11_init 497 = .ok (.dup, 1) := by decide +kernel
theorem dX11_init_498 : decode cX11_init 498 = .ok (.bipush 27, 2) := by decide +kernel
theorem dX11_init_500 : decode cX11_init 500 = .ok (.bipush 101, 2) := by decide +kernel
theorem dX11_init_502 : decode cX11_init 502 = .ok (.castore, 1) := by decide +kernel
theorem dX11_init_503 : decode cX11_init 503 = .ok (.dup, 1) := by decide +kernel
theorem dX11_init_504 : decode cX11_init 504 = .ok (.bipush 28, 2) := by decide +kernel
theorem dX11_init_506 : decode cX11_init 506 = .ok (.bipush 104, 2) := by decide +kernel
theorem dX11_init_508 : decode cX11_init 508 = .ok (.castore, 1) := by decide +kernel
theorem dX11_init_509 : decode cX11_init 509 = .ok (.dup, 1) := by decide +kernel
theorem dX11_init_510 : decode cX11_init 510 = .ok (.bipush 29, 2) := by decide +kernel
theorem dX11_init_512 : decode cX11_init 512 = .ok (.bipush 101, 2) := by decide +kernel
theorem dX11_init_514 : decode cX11_init 514 = .ok (.castore, 1) := by decide +kernel
theorem dX11_init_515 : decode cX11_init 515 = .ok (.dup, 1) := by decide +kernel
theorem dX11_init_516 : decode cX11_init 516 = .ok (.bipush 30, 2) := by decide +kernel
theorem dX11_init_518 : decode cX11_init 518 = .ok (.bipush 101, 2) := by decide +kernel
theorem dX11_init_520 : decode cX11_init 520 = .ok (.castore, 1) := by decide +kernel
theorem dX11_init_521 : decode cX11_init 521 = .ok (.dup, 1) := by decide +kernel
theorem dX11_init_522 : decode cX11_init 522 = .ok (.bipush 31, 2) := by decide +kernel
theorem dX11_init_524 : decode cX11_init 524 = .ok (.bipush 100, 2) := by decide +kernel
theorem dX11_init_526 : decode cX11_init 526 = .ok (.castore, 1) := by decide +kernel
theorem dX11_init_527 : decode cX11_init 527 = .ok (.dup, 1) := by decide +kernel
theorem dX11_init_528 : decode cX11_init 528 = .ok (.bipush 32, 2) := by decide +kernel
theorem dX11_init_530 : decode cX11_init 530 = .ok (.bipush 115, 2) := by decide +kernel
theorem dX11_init_532 : decode cX11_init 532 = .ok (.castore, 1) := by decide +kernel
theorem dX11_init_533 : decode cX11_init 533 = .ok (.dup, 1) := by decide +kernel
theorem dX11_init_534 : decode cX11_init 534 = .ok (.bipush 33, 2) := by decide +kernel
theorem dX11_init_536 : decode cX11_init 536 = .ok (.bipush 116, 2) := by decide +kernel
theorem dX11_init_538 : decode cX11_init 538 = .ok (.castore, 1) := by decide +kernel
theorem dX11_init_539 : decode cX11_init 539 = .ok (.dup, 1) := by decide +kernel
theorem dX11_init_540 : decode cX11_init 540 = .ok (.bipush 34, 2) := by decide +kernel
theorem dX11_init_542 : decode cX11_init 542 = .ok (.bipush 111, 2) := by decide +kernel
theorem dX11_init_544 : decode cX11_init 544 = .ok (.castore, 1) := by decide +kernel
theorem dX11_init_545 : decode cX11_init 545 = .ok (.dup, 1) := by decide +kernel
theorem dX11_init_546 : decode cX11_init 546 = .ok (.bipush 35, 2) := by decide +kernel
theorem dX11_init_548 : decode cX11_init 548 = .ok (.bipush 112, 2) := by decide +kernel
theorem dX11_init_550 : decode cX11_init 550 = .ok (.castore, 1) := by decide +kernel
theorem dX11_init_551 : decode cX11_init 551 = .ok (.dup, 1) := by decide +kernel
theorem dX11_init_552 : decode cX11_init 552 = .ok (.bipush 36, 2) := by decide +kernel
theorem dX11_init_554 : decode cX11_init 554 = .ok (.bipush 111, 2) := by decide +kernel
theorem dX11_init_556 : decode cX11_init 556 = .ok (.castore, 1) := by decide +kernel
theorem dX11_init_557 : decode cX11_init 557 = .ok (.dup, 1) := by decide +kernel
theorem dX11_init_558 : decode cX11_init 558 = .ok (.bipush 37, 2) := by decide +kernel
theorem dX11_init_560 : decode cX11_init 560 = .ok (.bipush 114, 2) := by decide +kernel
theorem dX11_init_562 : decode cX11_init 562 = .ok (.castore, 1) := by decide +kernel
theorem dX11_init_563 : decode cX11_init 563 = .ok (.dup, 1) := by decide +kernel
theorem dX11_init_564 : decode cX11_init 564 = .ok (.bipush 38, 2) := by decide +kernel
theorem dX11_init_566 : decode cX11_init 566 = .ok (.bipush 97, 2) := by decide +kernel
theorem dX11_init_568 : decode cX11_init 568 = .ok (.castore, 1) := by decide +kernel
theorem dX11_init_569 : decode cX11_init 569 = .ok (.dup, 1) := by decide +kernel
theorem dX11_init_570 : decode cX11_init 570 = .ok (.bipush 39, 2) := by decide +kernel
theorem dX11_init_572 : decode cX11_init 572 = .ok (.bipush 110, 2) := by decide +kernel
theorem dX11_init_574 : decode cX11_init 574 = .ok (.castore, 1) := by decide +kernel
theorem dX11_init_575 : decode cX11_init 575 = .ok (.dup, 1) := by decide +kernel
theorem dX11_init_576 : decode cX11_init 576 = .ok (.bipush 40, 2) := by decide +kernel
theorem dX11_init_578 : decode cX11_init 578 = .ok (.bipush 100, 2) := by decide +kernel
theorem dX11_init_580 : decode cX11_init 580 = .ok (.castore, 1) := by decide +kernel
theorem dX11_init_581 : decode cX11_init 581 = .ok (.dup, 1) := by decide +kernel
theorem dX11_init_582 : decode cX11_init 582 = .ok (.bipush 41, 2) := by decide +kernel
theorem dX11_init_584 : decode cX11_init 584 = .ok (.bipush 110, 2) := by decide +kernel
theorem dX11_init_586 : decode cX11_init 586 = .ok (.castore, 1) := by decide +kernel
theorem dX11_init_587 : decode cX11_init 587 = .ok (.dup, 1) := by decide +kernel
theorem dX11_init_588 : decode cX11_init 588 = .ok (.bipush 42, 2) := by decide +kernel
theorem dX11_init_590 : decode cX11_init 590 = .ok (.bipush 111, 2) := by decide +kernel
theorem dX11_init_592 : decode cX11_init 592 = .ok (.castore, 1) := by decide +kernel
theorem dX11_init_593 : decode cX11_init 593 = .ok (.dup, 1) := by decide +kernel
theorem dX11_init_594 : decode cX11_init 594 = .ok (.bipush 43, 2) := by decide +kernel
theorem dX11_init_596 : decode cX11_init 596 = .ok (.bipush 116, 2) := by decide +kernel
theorem dX11_init_598 : decode cX11_init 598 = .ok (.castore, 1) := by decide +kernel
theorem dX11_init_599 : decode cX11_init 599 = .ok (.putfield 199, 3) := by decide +kernel
theorem dX11_init_602 : decode cX11_init 602 = .ok (.aload_n 0, 1) := by decide +kernel
theorem dX11_init_603 : decode cX11_init 603 = .ok (.bipush 12, 2) := by decide +kernel
theorem dX11_init_605 : decode cX11_init 605 = .ok (.newarray .int, 2) := by decide +kernel
theorem dX11_init_607 : decode cX11_init 607 = .ok (.dup, 1) := by decide +kernel
theorem dX11_init_608 : decode cX11_init 608 = .ok (.iconst 0, 1) := by decide +kernel
theorem dX11_init_609 : decode cX11_init 609 = .ok (.iconst 0, 1) := by decide +kernel
theorem dX11_init_610 : decode cX11_init 610 = .ok (.iastore, 1) := by decide +kernel
theorem dX11_init_611 : decode cX11_init 611 = .ok (.dup, 1) := by decide +kernel
theorem dX11_init_612 : decode cX11_init 612 = .ok (.iconst 1, 1) := by decide +kernel
theorem dX11_init_613 : decode cX11_init 613 = .ok (.iconst 5, 1) := by decide +kernel
theorem dX11_init_614 : decode cX11_init 614 = .ok (.iastore, 1) := by decide +kernel
theorem dX11_init_615 : decode cX11_init 615 = .ok (.dup, 1) := by decide +kernel
theorem dX11_init_616 : decode cX11_init 616 = .ok (.iconst 2, 1) := by decide +kernel
theorem dX11_init_617 : decode cX11_init 617 = .ok (.bipush 11, 2) := by decide +kernel
theorem dX11_init_619 : decode cX11_init 619 = .ok (.iastore, 1) := by decide +kernel
theorem dX11_init_620 : decode cX11_init 620 = .ok (.dup, 1) := by decide +kernel
theorem dX11_init_621 : decode cX11_init 621 = .ok (.iconst 3, 1) := by decide +kernel
theorem dX11_init_622 : decode cX11_init 622 = .ok (.bipush 15, 2) := by decide +kernel
theorem dX11_init_624 : decode cX11_init 624 = .ok (.iastore, 1) := by decide +kernel
theorem dX11_init_625 : decode cX11_init 625 = .ok (.dup, 1) := by decide +kernel
theorem dX11_init_626 : decode cX11_init 626 = .ok (.iconst 4, 1) := by decide +kernel
theorem dX11_init_627 : decode cX11_init 627 = .ok (.bipush 19, 2) := by decide +kernel
theorem dX11_init_629 : decode cX11_init 629 = .ok (.iastore, 1) := by decide +kernel
theorem dX11_init_630 : decode cX11_init 630 = .ok (.dup, 1) := by decide +kernel
theorem dX11_init_631 : decode cX11_init 631 = .ok (.iconst 5, 1) := by decide +kernel
theorem dX11_init_632 : decode cX11_init 632 = .ok (.bipush 24, 2) := by decide +kernel
theorem dX11_init_634 : decode cX11_init 634 = .ok (.iastore, 1) := by decide +kernel
theorem dX11_init_635 : decode cX11_init 635 = .ok (.dup, 1) := by decide +kernel
theorem dX11_init_636 : decode cX11_init 636 = .ok (.bipush 6, 2) := by decide +kernel
theorem dX11_init_638 : decode cX11_init 638 = .ok (.bipush 28, 2) := by decide +kernel
theorem dX11_init_640 : decode cX11_init 640 = .ok (.iastore, 1) := by decide +kernel
theorem dX11_init_641 : decode cX11_init 641 = .ok (.dup, 1) := by decide +kernel
theorem dX11_init_642 : decode cX11_init 642 = .ok (.bipush 7, 2) := by decide +kernel
theorem dX11_init_644 : decode cX11_init 644 = .ok (.bipush 32, 2) := by decide +kernel
theorem dX11_init_646 : decode cX11_init 646 = .ok (.iastore, 1) := by decide +kernel
theorem dX11_init_647 : decode cX11_init 647 = .ok (.dup, 1) := by decide +kernel
theorem dX11_init_648 : decode cX11_init 648 = .ok (.bipush 8, 2) := by decide +kernel
theorem dX11_init_650 : decode cX11_init 650 = .ok (.bipush 36, 2) := by decide +kernel
theorem dX11_init_652 : decode cX11_init 652 = .ok (.iastore, 1) := by decide +kernel
theorem dX11_init_653 : decode cX11_init 653 = .ok (.dup, 1) := by decide +kernel
theorem dX11_init_654 : decode cX11_init 654 = .ok (.bipush 9, 2) := by decide +kernel
theorem dX11_init_656 : decode cX11_init 656 = .ok (.bipush 38, 2) := by decide +kernel
theorem dX11_init_658 : decode cX11_init 658 = .ok (.iastore, 1) := by decide +kernel
theorem dX11_init_659 : decode cX11_init 659 = .ok (.dup, 1) := by decide +kernel
theorem dX11_init_660 : decode cX11_init 660 = .ok (.bipush 10, 2) := by decide +kernel
theorem dX11_init_662 : decode cX11_init 662 = .ok (.bipush 41, 2) := by decide +kernel
theorem dX11_init_664 : decode cX11_init 664 = .ok (.iastore, 1) := by decide +kernel
theorem dX11_init_665 : decode cX11_init 665 = .ok (.dup, 1) := by decide +kernel
theorem dX11_init_666 : decode cX11_init 666 = .ok (.bipush 11, 2) := by decide +kernel
theorem dX11_init_668 : decode cX11_init 668 = .ok (.bipush 44, 2) := by decide +kernel
theorem dX11_init_670 : decode cX11_init 670 = .ok (.iastore, 1) := by decide +kernel
theorem dX11_init_671 : decode cX11_init 671 = .ok (.putfield 193, 3) := by decide +kernel
theorem dX11_init_674 : decode cX11_init 674 = .ok (.aload_n 0, 1) := by decide +kernel
theorem dX11_init_675 : decode cX11_init 675 = .ok (.sipush 170, 3) := by decide +kernel
theorem dX11_init_678 : decode cX11_init 678 = .ok (.newarray .int, 2) := by decide +kernel
theorem dX11_init_680 : decode cX11_init 680 = .ok (.putfield 228, 3) := by decide +kernel
theorem dX11_init_683 : decode cX11_init 683 = .ok (.aload_n 0, 1) := by decide +kernel
theorem dX11_init_684 : decode cX11_init 684 = .ok (.bipush 8, 2) := by decide +kernel
theorem dX11_init_686 : decode cX11_init 686 = .ok (.newarray .boolean, 2) := by decide +kernel
theorem dX11_init_688 : decode cX11_init 688 = .ok (.putfield 247, 3) := by decide +kernel
theorem dX11_init_691 : decode cX11_init 691 = .ok (.aload_n 0, 1) := by decide +kernel
theorem dX11_init_692 : decode cX11_init 692 = .ok (.sipush 170, 3) := by decide +kernel
theorem dX11_init_695 : decode cX11_init 695 = .ok (.newarray .int, 2) := by decide +kernel
theorem dX11_init_697 : decode cX11_init 697 = .ok (.putfield 289, 3) := by decide +kernel
theorem dX11_init_700 : decode cX11_init 700 = .ok (.aload_n 0, 1) := by decide +kernel
theorem dX11_init_701 : decode cX11_init 701 = .ok (.bipush 6, 2) := by decide +kernel
theorem dX11_init_703 : decode cX11_init 703 = .ok (.newarray .int, 2) := by decide +kernel
theorem dX11_init_705 : decode cX11_init 705 = .ok (.putfield 309, 3) := by decide +kernel
theorem dX11_init_708 : decode cX11_init 708 = .ok (.aload_n 0, 1) := by decide +kernel
theorem dX11_init_709 : decode cX11_init 709 = .ok (.bipush 6, 2) := by decide +kernel
theorem dX11_init_711 : decode cX11_init 711 = .ok (.newarray .int, 2) := by decide +kernel
theorem dX11_init_713 : decode cX11_init 713 = .ok (.putfield 312, 3) := by decide +kernel
theorem dX11_init_716 : decode cX11_init 716 = .ok (.aload_n 0, 1) := by decide +kernel
theorem dX11_init_717 : decode cX11_init 717 = .ok (.bipush 6, 2) := by decide +kernel
theorem dX11_init_719 : decode cX11_init 719 = .ok (.newarray .int, 2) := by decide +kernel
theorem dX11_init_721 : decode cX11_init 721 = .ok (.putfield 315, 3) := by decide +kernel
theorem dX11_init_724 : decode cX11_init 724 = .ok (.aload_n 0, 1) := by decide +kernel
theorem dX11_init_725 : decode cX11_init 725 = .ok (.bipush 6, 2) := by decide +kernel
theorem dX11_init_727 : decode cX11_init 727 = .ok (.newarray .int, 2) := by decide +kernel
theorem dX11_init_729 : decode cX11_init 729 = .ok (.putfield 318, 3) := by decide +kernel
theorem dX11_init_732 : decode cX11_init 732 = .ok (.aload_n 0, 1) := by decide +kernel
theorem dX11_init_733 : decode cX11_init 733 = .ok (.bipush 6, 2) := by decide +kernel
theorem dX11_init_735 : decode cX11_init 735 = .ok (.newarray .int, 2) := by decide +kernel
theorem dX11_init_737 : decode cX11_init 737 = .ok (.putfield 321, 3) := by decide +kernel
theorem dX11_init_740 : decode cX11_init 740 = .ok (.aload_n 0, 1) := by decide +kernel
theorem dX11_init_741 : decode cX11_init 741 = .ok (.iconst 3, 1) := by decide +kernel
theorem dX11_init_742 : decode cX11_init 742 = .ok (.newarray .int, 2) := by decide +kernel
theorem dX11_init_744 : decode cX11_init 744 = .ok (.putfield 324, 3) := by decide +kernel
theorem dX11_init_747 : decode cX11_init 747 = .ok (.aload_n 0, 1) := by decide +kernel
theorem dX11_init_748 : decode cX11_init 748 = .ok (.iconst 3, 1) := by decide +kernel
theorem dX11_init_749 : decode cX11_init 749 = .ok (.newarray .int, 2) := by decide +kernel
theorem dX11_init_751 : decode cX11_init 751 = .ok (.putfield 327, 3) := by decide +kernel
theorem dX11_init_754 : decode cX11_init 754 = .ok (.aload_n 0, 1) := by decide +kernel
theorem dX11_init_755 : decode cX11_init 755 = .ok (.iconst 4, 1) := by decide +kernel
theorem dX11_init_756 : decode cX11_init 756 = .ok (.newarray .int, 2) := by decide +kernel
theorem dX11_init_758 : decode cX11_init 758 = .ok (.putfield 330, 3) := by decide +kernel
theorem dX11_init_761 : decode cX11_init 761 = .ok (.aload_n 0, 1) := by decide +kernel
theorem dX11_init_762 : decode cX11_init 762 = .ok (.iconst 4, 1) := by decide +kernel
theorem dX11_init_763 : decode cX11_init 763 = .ok (.newarray .int, 2) := by decide +kernel
theorem dX11_init_765 : decode cX11_init 765 = .ok (.putfield 333, 3) := by decide +kernel
theorem dX11_init_768 : decode cX11_init 768 = .ok (.aload_n 0, 1) := by decide +kernel
theorem dX11_init_769 : decode cX11_init 769 = .ok (.bipush 6, 2) := by decide +kernel
theorem dX11_init_771 : decode cX11_init 771 = .ok (.newarray .int, 2) := by decide +kernel
theorem dX11_init_773 : decode cX11_init 773 = .ok (.putfield 336, 3) := by decide +kernel
theorem dX11_init_776 : decode cX11_init 776 = .ok (.aload_n 0, 1) := by decide +kernel
theorem dX11_init_777 : decode cX11_init 777 = .ok (.bipush 6, 2) := by decide +kernel
theorem dX11_init_779 : decode cX11_init 779 = .ok (.newarray .int, 2) := by decide +kernel
theorem dX11_init_781 : decode cX11_init 781 = .ok (.dup, 1) := by decide +kernel
theorem dX11_init_782 : decode cX11_init 782 = .ok (.iconst 0, 1) := by decide +kernel
theorem dX11_init_783 : decode cX11_init 783 = .ok (.iconst (-1), 1) := by decide +kernel
theorem dX11_init_784 : decode cX11_init 784 = .ok (.iastore, 1) := by decide +kernel
theorem dX11_init_785 : decode cX11_init 785 = .ok (.dup, 1) := by decide +kernel
theorem dX11_init_786 : decode cX11_init 786 = .ok (.iconst 1, 1) := by decide +kernel
theorem dX11_init_787 : decode cX11_init 787 = .ok (.iconst (-1), 1) := by decide +kernel
theorem dX11_init_788 : decode cX11_init 788 = .ok (.iastore, 1) := by decide +kernel
theorem dX11_init_789 : decode cX11_init 789 = .ok (.dup, 1) := by decide +kernel
theorem dX11_init_790 : decode cX11_init 790 = .ok (.iconst 2, 1) := by decide +kernel
theorem dX11_init_791 : decode cX11_init 791 = .ok (.iconst (-1), 1) := by decide +kernel
theorem dX11_init_792 : decode cX11_init 792 = .ok (.iastore, 1) := by decide +kernel
theorem dX11_init_793 : decode cX11_init 793 = .ok (.dup, 1) := by decide +kernel
theorem dX11_init_794 : decode cX11_init 794 = .ok (.iconst 3, 1) := by decide +kernel
theorem dX11_init_795 : decode cX11_init 795 = .ok (.iconst (-1), 1) := by decide +kernel
theorem dX11_init_796 : decode cX11_init 796 = .ok (.iastore, 1) := by decide +kernel
theorem dX11_init_797 : decode cX11_init 797 = .ok (.dup, 1) := by decide +kernel
theorem dX11_init_798 : decode cX11_init 798 = .ok (.iconst 4, 1) := by decide +kernel
theorem dX11_init_799 : decode cX11_init 799 = .ok (.iconst (-1), 1) := by decide +kernel
theorem dX11_init_800 : decode cX11_init 800 = .ok (.iastore, 1) := by decide +kernel
theorem dX11_init_801 : decode cX11_init 801 = .ok (.dup, 1) := by decide +kernel
theorem dX11_init_802 : decode cX11_init 802 = .ok (.iconst 5, 1) := by decide +kernel
theorem dX11_init_803 : decode cX11_init 803 = .ok (.iconst (-1), 1) := by decide +kernel
theorem dX11_init_804 : decode cX11_init 804 = .ok (.iastore, 1) := by decide +kernel
theorem dX11_init_805 : decode cX11_init 805 = .ok (.putfield 339, 3) := by decide +kernel
theorem dX11_init_808 : decode cX11_init 808 = .ok (.aload_n 0, 1) := by decide +kernel
theorem dX11_init_809 : decode cX11_init 809 = .ok (.iconst 4, 1) := by decide +kernel
theorem dX11_init_810 : decode cX11_init 810 = .ok (.newarray .int, 2) := by decide +kernel
theorem dX11_init_812 : decode cX11_init 812 = .ok (.dup, 1) := by decide +kernel
theorem dX11_init_813 : decode cX11_init 813 = .ok (.iconst 0, 1) := by decide +kernel
theorem dX11_init_814 : decode cX11_init 814 = .ok (.iconst (-1), 1) := by decide +kernel
theorem dX11_init_815 : decode cX11_init 815 = .ok (.iastore, 1) := by decide +kernel
theorem dX11_init_816 : decode cX11_init 816 = .ok (.dup, 1) := by decide +kernel
theorem dX11_init_817 : decode cX11_init 817 = .ok (.iconst 1, 1) := by decide +kernel
theorem dX11_init_818 : decode cX11_init 818 = .ok (.iconst (-1), 1) := by decide +kernel
theorem dX11_init_819 : decode cX11_init 819 = .ok (.iastore, 1) := by decide +kernel
theorem dX11_init_820 : decode cX11_init 820 = .ok (.dup, 1) := by decide +kernel
theorem dX11_init_821 : decode cX11_init 821 = .ok (.iconst 2, 1) := by decide +kernel
theorem dX11_init_822 : decode cX11_init 822 = .ok (.iconst (-1), 1) := by decide +kernel
theorem dX11_init_823 : decode cX11_init 823 = .ok (.iastore, 1) := by decide +kernel
theorem dX11_init_824 : decode cX11_init 824 = .ok (.dup, 1) := by decide +kernel
theorem dX11_init_825 : decode cX11_init 825 = .ok (.iconst 3, 1) := by decide +kernel
theorem dX11_init_826 : decode cX11_init 826 = .ok (.iconst (-1), 1) := by decide +kernel
theorem dX11_init_827 : decode cX11_init 827 = .ok (.iastore, 1) := by decide +kernel
theorem dX11_init_828 : decode cX11_init 828 = .ok (.putfield 342, 3) := by decide +kernel
theorem dX11_init_831 : decode cX11_init 831 = .ok (.aload_n 0, 1) := by decide +kernel
theorem dX11_init_832 : decode cX11_init 832 = .ok (.iconst 4, 1) := by decide +kernel
theorem dX11_init_833 : decode cX11_init 833 = .ok (.newarray .int, 2) := by decide +kernel
theorem dX11_init_835 : decode cX11_init 835 = .ok (.putfield 345, 3) := by decide +kernel
theorem dX11_init_838 : decode cX11_init 838 = .ok (.aload_n 0, 1) := by decide +kernel
theorem dX11_init_839 : decode cX11_init 839 = .ok (.sipush 160, 3) := by decide +kernel
theorem dX11_init_842 : decode cX11_init 842 = .ok (.newarray .int, 2) := by decide +kernel
theorem dX11_init_844 : decode cX11_init 844 = .ok (.putfield 348, 3) := by decide +kernel
theorem dX11_init_847 : decode cX11_init 847 = .ok (.aload_n 0, 1) := by decide +kernel
theorem dX11_init_848 : decode cX11_init 848 = .ok (.bipush 40, 2) := by decide +kernel
theorem dX11_init_850 : decode cX11_init 850 = .ok (.newarray .int, 2) := by decide +kernel
theorem dX11_init_852 : decode cX11_init 852 = .ok (.putfield 351, 3) := by decide +kernel
theorem dX11_init_855 : decode cX11_init 855 = .ok (.aload_n 0, 1) := by decide +kernel
theorem dX11_init_856 : decode cX11_init 856 = .ok (.getfield 216, 3) := by decide +kernel
theorem dX11_init_859 : decode cX11_init 859 = .ok (.iconst 0, 1) := by decide +kernel
theorem dX11_init_860 : decode cX11_init 860 = .ok (.bipush (-21), 2) := by decide +kernel
theorem dX11_init_862 : decode cX11_init 862 = .ok (.iastore, 1) := by decide +kernel
theorem dX11_init_863 : decode cX11_init 863 = .ok (.aload_n 0, 1) := by decide +kernel
theorem dX11_init_864 : decode cX11_init 864 = .ok (.getfield 216, 3) := by decide +kernel
theorem dX11_init_867 : decode cX11_init 867 = .ok (.iconst 1, 1) := by decide +kernel
theorem dX11_init_868 : decode cX11_init 868 = .ok (.iconst 0, 1) := by decide +kernel
theorem dX11_init_869 : decode cX11_init 869 = .ok (.iastore, 1) := by decide +kernel
theorem dX11_init_870 : decode cX11_init 870 = .ok (.aload_n 0, 1) := by decide +kernel
theorem dX11_init_871 : decode cX11_init 871 = .ok (.getfield 216, 3) := by decide +kernel
theorem dX11_init_874 : decode cX11_init 874 = .ok (.iconst 2, 1) := by decide +kernel
theorem dX11_init_875 : decode cX11_init 875 = .ok (.bipush (-11), 2) := by decide +kernel
theorem dX11_init_877 : decode cX11_init 877 = .ok (.iastore, 1) := by decide +kernel
theorem dX11_init_878 : decode cX11_init 878 = .ok (.aload_n 0, 1) := by decide +kernel
theorem dX11_init_879 : decode cX11_init 879 = .ok (.getfield 216, 3) := by decide +kernel
theorem dX11_init_882 : decode cX11_init 882 = .ok (.iconst 3, 1) := by decide +kernel
theorem dX11_init_883 : decode cX11_init 883 = .ok (.bipush 8, 2) := by decide +kernel
theorem dX11_init_885 : decode cX11_init 885 = .ok (.iastore, 1) := by decide +kernel
theorem dX11_init_886 : decode cX11_init 886 = .ok (.aload_n 0, 1) := by decide +kernel
theorem dX11_init_887 : decode cX11_init 887 = .ok (.getfield 216, 3) := by decide +kernel
theorem dX11_init_890 : decode cX11_init 890 = .ok (.iconst 4, 1) := by decide +kernel
theorem dX11_init_891 : decode cX11_init 891 = .ok (.bipush 6, 2) := by decide +kernel
theorem dX11_init_893 : decode cX11_init 893 = .ok (.iastore, 1) := by decide +kernel
theorem dX11_init_894 : decode cX11_init 894 = .ok (.aload_n 0, 1) := by decide +kernel
theorem dX11_init_895 : decode cX11_init 895 = .ok (.getfield 264, 3) := by decide +kernel
theorem dX11_init_898 : decode cX11_init 898 = .ok (.iconst 0, 1) := by decide +kernel
theorem dX11_init_899 : decode cX11_init 899 = .ok (.iconst 5, 1) := by decide +kernel
theorem dX11_init_900 : decode cX11_init 900 = .ok (.iastore, 1) := by decide +kernel
theorem dX11_init_901 : decode cX11_init 901 = .ok (.aload_n 0, 1) := by decide +kernel
theorem dX11_init_902 : decode cX11_init 902 = .ok (.getfield 216, 3) := by decide +kernel
theorem dX11_init_905 : decode cX11_init 905 = .ok (.sipush 160, 3) := by decide +kernel
theorem dX11_init_908 : decode cX11_init 908 = .ok (.bipush (-61), 2) := by decide +kernel
theorem dX11_init_910 : decode cX11_init 910 = .ok (.iastore, 1) := by decide +kernel
theorem dX11_init_911 : decode cX11_init 911 = .ok (.aload_n 0, 1) := by decide +kernel
theorem dX11_init_912 : decode cX11_init 912 = .ok (.getfield 216, 3) := by decide +kernel
theorem dX11_init_915 : decode cX11_init 915 = .ok (.sipush 161, 3) := by decide +kernel
theorem dX11_init_918 : decode cX11_init 918 = .ok (.iconst 2, 1) := by decide +kernel
theorem dX11_init_919 : decode cX11_init 919 = .ok (.iastore, 1) := by decide +kernel
theorem dX11_init_920 : decode cX11_init 920 = .ok (.aload_n 0, 1) := by decide +kernel
theorem dX11_init_921 : decode cX11_init 921 = .ok (.getfield 216, 3) := by decide +kernel
theorem dX11_init_924 : decode cX11_init 924 = .ok (.sipush 162, 3) := by decide +kernel
theorem dX11_init_927 : decode cX11_init 927 = .ok (.bipush 9, 2) := by decide +kernel
theorem dX11_init_929 : decode cX11_init 929 = .ok (.iastore, 1) := by decide +kernel
theorem dX11_init_930 : decode cX11_init 930 = .ok (.aload_n 0, 1) := by decide +kernel
theorem dX11_init_931 : decode cX11_init 931 = .ok (.getfield 264, 3) := by decide +kernel
theorem dX11_init_934 : decode cX11_init 934 = .ok (.iconst 1, 1) := by decide +kernel
theorem dX11_init_935 : decode cX11_init 935 = .ok (.iconst 3, 1) := by decide +kernel
theorem dX11_init_936 : decode cX11_init 936 = .ok (.iastore, 1) := by decide +kernel
theorem dX11_init_937 : decode cX11_init 937 = .ok (.aload_n 0, 1) := by decide +kernel
theorem dX11_init_938 : decode cX11_init 938 = .ok (.iconst 1, 1) := by decide +kernel
theorem dX11_init_939 : decode cX11_init 939 = .ok (.putfield 280, 3) := by decide +kernel
theorem dX11_init_942 : decode cX11_init 942 = .ok (.return_, 1) := by decide +kernel
theorem dX11_call_0 : decode cX11_call 0 = .ok (.aload_n 0, 1) := by decide +kernel
theorem dX11_call_1 : decode cX11_call 1 = .ok (.iload_n 1, 1) := by decide +kernel
theorem dX11_call_2 : decode cX11_call 2 = .ok (.invokevirtual 42, 3) := by decide +kernel
theorem dX11_call_5 : decode cX11_call 5 = .ok (.ifCond .ne 6, 3) := by decide +kernel
theorem dX11_call_8 : decode cX11_call 8 = .ok (.bipush (-2), 2) := by decide +kernel
theorem dX11_call_10 : decode cX11_call 10 = .ok (.ireturn, 1) := by decide +kernel
theorem dX11_call_11 : decode cX11_call 11 = .ok (.aload_n 0, 1) := by decide +kernel
theorem dX11_call_12 : decode cX11_call 12 = .ok (.getfield 96, 3) := by decide +kernel
theorem dX11_call_15 : decode cX11_call 15 = .ok (.iload_n 1, 1) := by decide +kernel
theorem dX11_call_16 : decode cX11_call 16 = .ok (.iaload, 1) := by decide +kernel
theorem dX11_call_17 : decode cX11_call 17 = .ok (.iconst (-1), 1) := by decide +kernel
theorem dX11_call_18 : decode cX11_call 18 = .ok (.if_icmp .ne 14, 3) := by decide +kernel
theorem dX11_call_21 : decode cX11_call 21 = .ok (.aload_n 0, 1) := by decide +kernel
theorem dX11_call_22 : decode cX11_call 22 = .ok (.getfield 26, 3) := by decide +kernel
theorem dX11_call_25 : decode cX11_call 25 = .ok (.aload_n 0, 1) := by decide +kernel
theorem dX11_call_26 : decode cX11_call 26 = .ok (.getfield 136, 3) := by decide +kernel
theorem dX11_call_29 : decode cX11_call 29 = .ok (.if_icmp .ne 6, 3) := by decide +kernel
theorem dX11_call_32 : decode cX11_call 32 = .ok (.bipush (-3), 2) := by decide +kernel
theorem dX11_call_34 : decode cX11_call 34 = .ok (.ireturn, 1) := by decide +kernel
theorem dX11_call_35 : decode cX11_call 35 = .ok (.aload_n 0, 1) := by decide +kernel
theorem dX11_call_36 : decode cX11_call 36 = .ok (.getfield 96, 3) := by decide +kernel
theorem dX11_call_39 : decode cX11_call 39 = .ok (.iload_n 1, 1) := by decide +kernel
theorem dX11_call_40 : decode cX11_call 40 = .ok (.aload_n 0, 1) := by decide +kernel
theorem dX11_call_41 : decode cX11_call 41 = .ok (.getfield 26, 3) := by decide +kernel
theorem dX11_call_44 : decode cX11_call 44 = .ok (.iastore, 1) := by decide +kernel
theorem dX11_call_45 : decode cX11_call 45 = .ok (.aload_n 0, 1) := by decide +kernel
theorem dX11_call_46 : decode cX11_call 46 = .ok (.getfield 26, 3) := by decide +kernel
theorem dX11_call_49 : decode cX11_call 49 = .ok (.ireturn, 1) := by decide +kernel
theorem dX11_wasWet_0 : decode cX11_wasWet 0 = .ok (.iconst 0, 1) := by decide +kernel
theorem dX11_wasWet_1 : decode cX11_wasWet 1 = .ok (.istore 4, 2) := by decide +kernel
theorem dX11_wasWet_3 : decode cX11_wasWet 3 = .ok (.iload_n 3, 1) := by decide +kernel
theorem dX11_wasWet_4 : decode cX11_wasWet 4 = .ok (.istore 5, 2) := by decide +kernel
theorem dX11_wasWet_6 : decode cX11_wasWet 6 = .ok (.iload 5, 2) := by decide +kernel
theorem dX11_wasWet_8 : decode cX11_wasWet 8 = .ok (.iload_n 3, 1) := by decide +kernel
theorem dX11_wasWet_9 : decode cX11_wasWet 9 = .ok (.bipush 12, 2) := by decide +kernel
theorem dX11_wasWet_11 : decode cX11_wasWet 11 = .ok (.iadd, 1) := by decide +kernel
theorem dX11_wasWet_12 : decode cX11_wasWet 12 = .ok (.if_icmp .gt 48, 3) := by decide +kernel
theorem dX11_wasWet_15 : decode cX11_wasWet 15 = .ok (.iload 5, 2) := by decide +kernel
theorem dX11_wasWet_17 : decode cX11_wasWet 17 = .ok (.aload_n 0, 1) := by decide +kernel
theorem dX11_wasWet_18 : decode cX11_wasWet 18 = .ok (.getfield 136, 3) := by decide +kernel
theorem dX11_wasWet_21 : decode cX11_wasWet 21 = .ok (.if_icmp .gt 39, 3) := by decide +kernel
theorem dX11_wasWet_24 : decode cX11_wasWet 24 = .ok (.iload 4, 2) := by decide +kernel
theorem dX11_wasWet_26 : decode cX11_wasWet 26 = .ok (.ifCond .ne 21, 3) := by decide +kernel
theorem dX11_wasWet_29 : decode cX11_wasWet 29 = .ok (.aload_n 0, 1) := by decide +kernel
theorem dX11_wasWet_30 : decode cX11_wasWet 30 = .ok (.iload_n 1, 1) := by decide +kernel
theorem dX11_wasWet_31 : decode cX11_wasWet 31 = .ok (.iload 5, 2) := by decide +kernel
theorem dX11_wasWet_33 : decode cX11_wasWet 33 = .ok (.iload_n 3, 1) := by decide +kernel
theorem dX11_wasWet_34 : decode cX11_wasWet 34 = .ok (.iconst 0, 1) := by decide +kernel
theorem dX11_wasWet_35 : decode cX11_wasWet 35 = .ok (.invokevirtual 171, 3) := by decide +kernel
theorem dX11_wasWet_38 : decode cX11_wasWet 38 = .ok (.aload_n 0, 1) := by decide +kernel
theorem dX11_wasWet_39 : decode cX11_wasWet 39 = .ok (.getfield 29, 3) := by decide +kernel
theorem dX11_wasWet_42 : decode cX11_wasWet 42 = .ok (.iload_n 2, 1) := by decide +kernel
theorem dX11_wasWet_43 : decode cX11_wasWet 43 = .ok (.iaload, 1) := by decide +kernel
theorem dX11_wasWet_44 : decode cX11_wasWet 44 = .ok (.if_icmp .le 7, 3) := by decide +kernel
theorem dX11_wasWet_47 : decode cX11_wasWet 47 = .ok (.iconst 1, 1) := by decide +kernel
theorem dX11_wasWet_48 : decode cX11_wasWet 48 = .ok (.goto 4, 3) := by decide +kernel
theorem dX11_wasWet_51 : decode cX11_wasWet 51 = .ok (.iconst 0, 1) := by decide +kernel
theorem dX11_wasWet_52 : decode cX11_wasWet 52 = .ok (.istore 4, 2) := by decide +kernel
theorem dX11_wasWet_54 : decode cX11_wasWet 54 = .ok (.iinc 5 1, 3) := by decide +kernel
theorem dX11_wasWet_57 : decode cX11_wasWet 57 = .ok (.goto (-51), 3) := by decide +kernel
theorem dX11_wasWet_60 : decode cX11_wasWet 60 = .ok (.iload 4, 2) := by decide +kernel
theorem dX11_wasWet_62 : decode cX11_wasWet 62 = .ok (.ireturn, 1) := by decide +kernel
theorem dX11_good_0 : decode cX11_good 0 = .ok (.aload_n 0, 1) := by decide +kernel
theorem dX11_good_1 : decode cX11_good 1 = .ok (.iload_n 1, 1) := by decide +kernel
theorem dX11_good_2 : decode cX11_good 2 = .ok (.invokevirtual 42, 3) := by decide +kernel
theorem dX11_good_5 : decode cX11_good 5 = .ok (.ifCond .ne 6, 3) := by decide +kernel
theorem dX11_good_8 : decode cX11_good 8 = .ok (.bipush (-2), 2) := by decide +kernel
theorem dX11_good_10 : decode cX11_good 10 = .ok (.ireturn, 1) := by decide +kernel
theorem dX11_good_11 : decode cX11_good 11 = .ok (.aload_n 0, 1) := by decide +kernel
theorem dX11_good_12 : decode cX11_good 12 = .ok (.getfield 96, 3) := by decide +kernel
theorem dX11_good_15 : decode cX11_good 15 = .ok (.iload_n 1, 1) := by decide +kernel
theorem dX11_good_16 : decode cX11_good 16 = .ok (.iaload, 1) := by decide +kernel
theorem dX11_good_17 : decode cX11_good 17 = .ok (.iconst (-1), 1) := by decide +kernel
theorem dX11_good_18 : decode cX11_good 18 = .ok (.if_icmp .ne 5, 3) := by decide +kernel
theorem dX11_good_21 : decode cX11_good 21 = .ok (.iconst (-1), 1) := by decide +kernel
theorem dX11_good_22 : decode cX11_good 22 = .ok (.ireturn, 1) := by decide +kernel
theorem dX11_good_23 : decode cX11_good 23 = .ok (.iconst 0, 1) := by decide +kernel
theorem dX11_good_24 : decode cX11_good 24 = .ok (.istore_n 2, 1) := by decide +kernel
theorem dX11_good_25 : decode cX11_good 25 = .ok (.iconst 0, 1) := by decide +kernel
theorem dX11_good_26 : decode cX11_good 26 = .ok (.istore_n 3, 1) := by decide +kernel
theorem dX11_good_27 : decode cX11_good 27 = .ok (.iload_n 3, 1) := by decide +kernel
theorem dX11_good_28 : decode cX11_good 28 = .ok (.iconst 3, 1) := by decide +kernel
theorem dX11_good_29 : decode cX11_good 29 = .ok (.if_icmp .ge 44, 3) := by decide +kernel
theorem dX11_good_32 : decode cX11_good 32 = .ok (.iload_n 2, 1) := by decide +kernel
theorem dX11_good_33 : decode cX11_good 33 = .ok (.ifCond .ne 28, 3) := by decide +kernel
theorem dX11_good_36 : decode cX11_good 36 = .ok (.aload_n 0, 1) := by decide +kernel
theorem dX11_good_37 : decode cX11_good 37 = .ok (.getfield 142, 3) := by decide +kernel
theorem dX11_good_40 : decode cX11_good 40 = .ok (.iload_n 3, 1) := by decide +kernel
theorem dX11_good_41 : decode cX11_good 41 = .ok (.iaload, 1) := by decide +kernel
theorem dX11_good_42 : decode cX11_good 42 = .ok (.iconst 1, 1) := by decide +kernel
theorem dX11_good_43 : decode cX11_good 43 = .ok (.if_icmp .ne 22, 3) := by decide +kernel
theorem dX11_good_46 : decode cX11_good 46 = .ok (.aload_n 0, 1) := by decide +kernel
theorem dX11_good_47 : decode cX11_good 47 = .ok (.iload_n 3, 1) := by decide +kernel
theorem dX11_good_48 : decode cX11_good 48 = .ok (.iload_n 1, 1) := by decide +kernel
theorem dX11_good_49 : decode cX11_good 49 = .ok (.aload_n 0, 1) := by decide +kernel
theorem dX11_good_50 : decode cX11_good 50 = .ok (.getfield 96, 3) := by decide +kernel
theorem dX11_good_53 : decode cX11_good 53 = .ok (.iload_n 1, 1) := by decide +kernel
theorem dX11_good_54 : decode cX11_good 54 = .ok (.iaload, 1) := by decide +kernel
theorem dX11_good_55 : decode cX11_good 55 = .ok (.invokevirtual 354, 3) := by decide +kernel
theorem dX11_good_58 : decode cX11_good 58 = .ok (.ifCond .eq 7, 3) := by decide +kernel
theorem dX11_good_61 : decode cX11_good 61 = .ok (.iconst 1, 1) := by decide +kernel
theorem dX11_good_62 : decode cX11_good 62 = .ok (.goto 4, 3) := by decide +kernel
theorem dX11_good_65 : decode cX11_good 65 = .ok (.iconst 0, 1) := by decide +kernel
theorem dX11_good_66 : decode cX11_good 66 = .ok (.istore_n 2, 1) := by decide +kernel
theorem dX11_good_67 : decode cX11_good 67 = .ok (.iinc 3 1, 3) := by decide +kernel
theorem dX11_good_70 : decode cX11_good 70 = .ok (.goto (-43), 3) := by decide +kernel
theorem dX11_good_73 : decode cX11_good 73 = .ok (.iload_n 2, 1) := by decide +kernel
theorem dX11_good_74 : decode cX11_good 74 = .ok (.ifCond .eq 7, 3) := by decide +kernel
theorem dX11_good_77 : decode cX11_good 77 = .ok (.iconst 1, 1) := by decide +kernel
theorem dX11_good_78 : decode cX11_good 78 = .ok (.goto 4, 3) := by decide +kernel
theorem dX11_good_81 : decode cX11_good 81 = .ok (.iconst 0, 1) := by decide +kernel
theorem dX11_good_82 : decode cX11_good 82 = .ok (.ireturn, 1) := by decide +kernel
theorem dX11_canTake_0 : decode cX11_canTake 0 = .ok (.aload_n 0, 1) := by decide +kernel
theorem dX11_canTake_1 : decode cX11_canTake 1 = .ok (.aload_n 0, 1) := by decide +kernel
theorem dX11_canTake_2 : decode cX11_canTake 2 = .ok (.getfield 59, 3) := by decide +kernel
theorem dX11_canTake_5 : decode cX11_canTake 5 = .ok (.iload_n 1, 1) := by decide +kernel
theorem dX11_canTake_6 : decode cX11_canTake 6 = .ok (.iaload, 1) := by decide +kernel
theorem dX11_canTake_7 : decode cX11_canTake 7 = .ok (.iload_n 2, 1) := by decide +kernel
theorem dX11_canTake_8 : decode cX11_canTake 8 = .ok (.iload_n 3, 1) := by decide +kernel
theorem dX11_canTake_9 : decode cX11_canTake 9 = .ok (.invokevirtual 102, 3) := by decide +kernel
theorem dX11_canTake_12 : decode cX11_canTake 12 = .ok (.ifCond .ne 29, 3) := by decide +kernel
theorem dX11_canTake_15 : decode cX11_canTake 15 = .ok (.aload_n 0, 1) := by decide +kernel
theorem dX11_canTake_16 : decode cX11_canTake 16 = .ok (.getfield 62, 3) := by decide +kernel
theorem dX11_canTake_19 : decode cX11_canTake 19 = .ok (.iload_n 1, 1) := by decide +kernel
theorem dX11_canTake_20 : decode cX11_canTake 20 = .ok (.iaload, 1) := by decide +kernel
theorem dX11_canTake_21 : decode cX11_canTake 21 = .ok (.bipush 6, 2) := by decide +kernel
theorem dX11_canTake_23 : decode cX11_canTake 23 = .ok (.if_icmp .ge 20, 3) := by decide +kernel
theorem dX11_canTake_26 : decode cX11_canTake 26 = .ok (.aload_n 0, 1) := by decide +kernel
theorem dX11_canTake_27 : decode cX11_canTake 27 = .ok (.aload_n 0, 1) := by decide +kernel
theorem dX11_canTake_28 : decode cX11_canTake 28 = .ok (.getfield 62, 3) := by decide +kernel
theorem dX11_canTake_31 : decode cX11_canTake 31 = .ok (.iload_n 1, 1) := by decide +kernel
theorem dX11_canTake_32 : decode cX11_canTake 32 = .ok (.iaload, 1) := by decide +kernel
theorem dX11_canTake_33 : decode cX11_canTake 33 = .ok (.iload_n 2, 1) := by decide +kernel
theorem dX11_canTake_34 : decode cX11_canTake 34 = .ok (.iload_n 3, 1) := by decide +kernel
theorem dX11_canTake_35 : decode cX11_canTake 35 = .ok (.invokevirtual 102, 3) := by decide +kernel
theorem dX11_canTake_38 : decode cX11_canTake 38 = .ok (.ifCond .eq 5, 3) := by decide +kernel
theorem dX11_canTake_41 : decode cX11_canTake 41 = .ok (.iconst 0, 1) := by decide +kernel
theorem dX11_canTake_42 : decode cX11_canTake 42 = .ok (.ireturn, 1) := by decide +kernel
theorem dX11_canTake_43 : decode cX11_canTake 43 = .ok (.aload_n 0, 1) := by decide +kernel
theorem dX11_canTake_44 : decode cX11_canTake 44 = .ok (.getfield 168, 3) := by decide +kernel
theorem dX11_canTake_47 : decode cX11_canTake 47 = .ok (.bipush 61, 2) := by decide +kernel
theorem dX11_canTake_49 : decode cX11_canTake 49 = .ok (.iload_n 2, 1) := by decide +kernel
theorem dX11_canTake_50 : decode cX11_canTake 50 = .ok (.imul, 1) := by decide +kernel
theorem dX11_canTake_51 : decode cX11_canTake 51 = .ok (.iload_n 3, 1) := by decide +kernel
theorem dX11_canTake_52 : decode cX11_canTake 52 = .ok (.iadd, 1) := by decide +kernel
theorem dX11_canTake_53 : decode cX11_canTake 53 = .ok (.iaload, 1) := by decide +kernel
theorem dX11_canTake_54 : decode cX11_canTake 54 = .ok (.istore 4, 2) := by decide +kernel
theorem dX11_canTake_56 : decode cX11_canTake 56 = .ok (.aload_n 0, 1) := by decide +kernel
theorem dX11_canTake_57 : decode cX11_canTake 57 = .ok (.getfield 56, 3) := by decide +kernel
theorem dX11_canTake_60 : decode cX11_canTake 60 = .ok (.iload_n 1, 1) := by decide +kernel
theorem dX11_canTake_61 : decode cX11_canTake 61 = .ok (.iaload, 1) := by decide +kernel
theorem dX11_canTake_62 : decode cX11_canTake 62 = .ok (.istore 5, 2) := by decide +kernel
theorem dX11_canTake_64 : decode cX11_canTake 64 = .ok (.aload_n 0, 1) := by decide +kernel
theorem dX11_canTake_65 : decode cX11_canTake 65 = .ok (.getfield 68, 3) := by decide +kernel
theorem dX11_canTake_68 : decode cX11_canTake 68 = .ok (.iload_n 1, 1) := by decide +kernel
theorem dX11_canTake_69 : decode cX11_canTake 69 = .ok (.iaload, 1) := by decide +kernel
theorem dX11_canTake_70 : decode cX11_canTake 70 = .ok (.iconst (-1), 1) := by decide +kernel
theorem dX11_canTake_71 : decode cX11_canTake 71 = .ok (.if_icmp .eq 7, 3) := by decide +kernel
theorem dX11_canTake_74 : decode cX11_canTake 74 = .ok (.iconst 1, 1) := by decide +kernel
theorem dX11_canTake_75 : decode cX11_canTake 75 = .ok (.goto 4, 3) := by decide +kernel
theorem dX11_canTake_78 : decode cX11_canTake 78 = .ok (.iconst 0, 1) := by decide +kernel
theorem dX11_canTake_79 : decode cX11_canTake 79 = .ok (.istore 6, 2) := by decide +kernel
theorem dX11_canTake_81 : decode cX11_canTake 81 = .ok (.iload 6, 2) := by decide +kernel
theorem dX11_canTake_83 : decode cX11_canTake 83 = .ok (.ifCond .eq 33, 3) := by decide +kernel
theorem dX11_canTake_86 : decode cX11_canTake 86 = .ok (.iload_n 3, 1) := by decide +kernel
theorem dX11_canTake_87 : decode cX11_canTake 87 = .ok (.aload_n 0, 1) := by decide +kernel
theorem dX11_canTake_88 : decode cX11_canTake 88 = .ok (.getfield 68, 3) := by decide +kernel
theorem dX11_canTake_91 : decode cX11_canTake 91 = .ok (.iload_n 1, 1) := by decide +kernel
theorem dX11_canTake_92 : decode cX11_canTake 92 = .ok (.iaload, 1) := by decide +kernel
theorem dX11_canTake_93 : decode cX11_canTake 93 = .ok (.if_icmp .eq 21, 3) := by decide +kernel
theorem dX11_canTake_96 : decode cX11_canTake 96 = .ok (.iload 5, 2) := by decide +kernel
theorem dX11_canTake_98 : decode cX11_canTake 98 = .ok (.iconst 3, 1) := by decide +kernel
theorem dX11_canTake_99 : decode cX11_canTake 99 = .ok (.if_icmp .ne 17, 3) := by decide +kernel
theorem dX11_canTake_102 : decode cX11_canTake 102 = .ok (.iload_n 3, 1) := by decide +kernel
theorem dX11_canTake_103 : decode cX11_canTake 103 = .ok (.aload_n 0, 1) := by decide +kernel
theorem dX11_canTake_104 : decode cX11_canTake 104 = .ok (.getfield 68, 3) := by decide +kernel
theorem dX11_canTake_107 : decode cX11_canTake 107 = .ok (.iload_n 1, 1) := by decide +kernel
theorem dX11_canTake_108 : decode cX11_canTake 108 = .ok (.iaload, 1) := by decide +kernel
theorem dX11_canTake_109 : decode cX11_canTake 109 = .ok (.iconst 1, 1) := by decide +kernel
theorem dX11_canTake_110 : decode cX11_canTake 110 = .ok (.iadd, 1) := by decide +kernel
theorem dX11_canTake_111 : decode cX11_canTake 111 = .ok (.if_icmp .ne 5, 3) := by decide +kernel
theorem dX11_canTake_114 : decode cX11_canTake 114 = .ok (.iconst 0, 1) := by decide +kernel
theorem dX11_canTake_115 : decode cX11_canTake 115 = .ok (.ireturn, 1) := by decide +kernel
theorem dX11_canTake_116 : decode cX11_canTake 116 = .ok (.iload 5, 2) := by decide +kernel
theorem dX11_canTake_118 : decode cX11_canTake 118 = .ok (.tableswitch 120 1 5 #[34, 57, 34, 75, 111], 34) := by decide +kernel
theorem dX11_canTake_152 : decode cX11_canTake 152 = .ok (.iload 6, 2) := by decide +kernel
theorem dX11_canTake_154 : decode cX11_canTake 154 = .ok (.ifCond .eq 14, 3) := by decide +kernel
theorem dX11_canTake_157 : decode cX11_canTake 157 = .ok (.iconst 2, 1) := by decide +kernel
theorem dX11_canTake_158 : decode cX11_canTake 158 = .ok (.aload_n 0, 1) := by decide +kernel
theorem dX11_canTake_159 : decode cX11_canTake 159 = .ok (.getfield 65, 3) := by decide +kernel
theorem dX11_canTake_162 : decode cX11_canTake 162 = .ok (.iload_n 1, 1) := by decide +kernel
theorem dX11_canTake_163 : decode cX11_canTake 163 = .ok (.iaload, 1) := by decide +kernel
theorem dX11_canTake_164 : decode cX11_canTake 164 = .ok (.imul, 1) := by decide +kernel
theorem dX11_canTake_165 : decode cX11_canTake 165 = .ok (.goto 9, 3) := by decide +kernel
theorem dX11_canTake_168 : decode cX11_canTake 168 = .ok (.aload_n 0, 1) := by decide +kernel
theorem dX11_canTake_169 : decode cX11_canTake 169 = .ok (.getfield 65, 3) := by decide +kernel
theorem dX11_canTake_172 : decode cX11_canTake 172 = .ok (.iload_n 1, 1) := by decide +kernel
theorem dX11_canTake_173 : decode cX11_canTake 173 = .ok (.iaload, 1) := by decide +kernel
theorem dX11_canTake_174 : decode cX11_canTake 174 = .ok (.ireturn, 1) := by decide +kernel
theorem dX11_canTake_175 : decode cX11_canTake 175 = .ok (.iload 4, 2) := by decide +kernel
theorem dX11_canTake_177 : decode cX11_canTake 177 = .ok (.bipush 40, 2) := by decide +kernel
theorem dX11_canTake_179 : decode cX11_canTake 179 = .ok (.if_icmp .le 7, 3) := by decide +kernel
theorem dX11_canTake_182 : decode cX11_canTake 182 = .ok (.iconst 0, 1) := by decide +kernel
theorem dX11_canTake_183 : decode cX11_canTake 183 = .ok (.goto 9, 3) := by decide +kernel
theorem dX11_canTake_186 : decode cX11_canTake 186 = .ok (.aload_n 0, 1) := by decide +kernel
theorem dX11_canTake_187 : decode cX11_canTake 187 = .ok (.getfield 65, 3) := by decide +kernel
theorem dX11_canTake_190 : decode cX11_canTake 190 = .ok (.iload_n 1, 1) := by decide +kernel
theorem dX11_canTake_191 : decode cX11_canTake 191 = .ok (.iaload, 1) := by decide +kernel
theorem dX11_canTake_192 : decode cX11_canTake 192 = .ok (.ireturn, 1) := by decide +kernel
theorem dX11_canTake_193 : decode cX11_canTake 193 = .ok (.iload 4, 2) := by decide +kernel
theorem dX11_canTake_195 : decode cX11_canTake 195 = .ok (.bipush 40, 2) := by decide +kernel
theorem dX11_canTake_197 : decode cX11_canTake 197 = .ok (.if_icmp .le 7, 3) := by decide +kernel
theorem dX11_canTake_200 : decode cX11_canTake 200 = .ok (.iconst 0, 1) := by decide +kernel
theorem dX11_canTake_201 : decode cX11_canTake 201 = .ok (.goto 27, 3) := by decide +kernel
theorem dX11_canTake_204 : decode cX11_canTake 204 = .ok (.iload 4, 2) := by decide +kernel
theorem dX11_canTake_206 : decode cX11_canTake 206 = .ok (.bipush 20, 2) := by decide +kernel
theorem dX11_canTake_208 : decode cX11_canTake 208 = .ok (.if_icmp .le 14, 3) := by decide +kernel
theorem dX11_canTake_211 : decode cX11_canTake 211 = .ok (.aload_n 0, 1) := by decide +kernel
theorem dX11_canTake_212 : decode cX11_canTake 212 = .ok (.getfield 65, 3) := by decide +kernel
theorem dX11_canTake_215 : decode cX11_canTake 215 = .ok (.iload_n 1, 1) := by decide +kernel
theorem dX11_canTake_216 : decode cX11_canTake 216 = .ok (.iaload, 1) := by decide +kernel
theorem dX11_canTake_217 : decode cX11_canTake 217 = .ok (.iconst 2, 1) := by decide +kernel
theorem dX11_canTake_218 : decode cX11_canTake 218 = .ok (.idiv, 1) := by decide +kernel
theorem dX11_canTake_219 : decode cX11_canTake 219 = .ok (.goto 9, 3) := by decide +kernel
theorem dX11_canTake_222 : decode cX11_canTake 222 = .ok (.aload_n 0, 1) := by decide +kernel
theorem dX11_canTake_223 : decode cX11_canTake 223 = .ok (.getfield 65, 3) := by decide +kernel
theorem dX11_canTake_226 : decode cX11_canTake 226 = .ok (.iload_n 1, 1) := by decide +kernel
theorem dX11_canTake_227 : decode cX11_canTake 227 = .ok (.iaload, 1) := by decide +kernel
theorem dX11_canTake_228 : decode cX11_canTake 228 = .ok (.ireturn, 1) := by decide +kernel
theorem dX11_canTake_229 : decode cX11_canTake 229 = .ok (.aload_n 0, 1) := by decide +kernel
theorem dX11_canTake_230 : decode cX11_canTake 230 = .ok (.getfield 65, 3) := by decide +kernel
theorem dX11_canTake_233 : decode cX11_canTake 233 = .ok (.iload_n 1, 1) := by decide +kernel
theorem dX11_canTake_234 : decode cX11_canTake 234 = .ok (.iaload, 1) := by decide +kernel
theorem dX11_canTake_235 : decode cX11_canTake 235 = .ok (.iconst 3, 1) := by decide +kernel
theorem dX11_canTake_236 : decode cX11_canTake 236 = .ok (.idiv, 1) := by decide +kernel
theorem dX11_canTake_237 : decode cX11_canTake 237 = .ok (.ireturn, 1) := by decide +kernel
theorem dX11_canTake_238 : decode cX11_canTake 238 = .ok (.aload_n 0, 1) := by decide +kernel
theorem dX11_canTake_239 : decode cX11_canTake 239 = .ok (.getfield 65, 3) := by decide +kernel
theorem dX11_canTake_242 : decode cX11_canTake 242 = .ok (.iload_n 1, 1) := by decide +kernel
theorem dX11_canTake_243 : decode cX11_canTake 243 = .ok (.iaload, 1) := by decide +kernel
theorem dX11_canTake_244 : decode cX11_canTake 244 = .ok (.ireturn, 1) := by decide +kernel
theorem dX11_leave_0 : decode cX11_leave 0 = .ok (.iconst 0, 1) := by decide +kernel
theorem dX11_leave_1 : decode cX11_leave 1 = .ok (.istore_n 2, 1) := by decide +kernel
theorem dX11_leave_2 : decode cX11_leave 2 = .ok (.iload_n 2, 1) := by decide +kernel
theorem dX11_leave_3 : decode cX11_leave 3 = .ok (.aload_n 0, 1) := by decide +kernel
theorem dX11_leave_4 : decode cX11_leave 4 = .ok (.getfield 1, 3) := by decide +kernel
theorem dX11_leave_7 : decode cX11_leave 7 = .ok (.if_icmp .ge 134, 3) := by decide +kernel
theorem dX11_leave_10 : decode cX11_leave 10 = .ok (.aload_n 0, 1) := by decide +kernel
theorem dX11_leave_11 : decode cX11_leave 11 = .ok (.getfield 309, 3) := by decide +kernel
theorem dX11_leave_14 : decode cX11_leave 14 = .ok (.iload_n 2, 1) := by decide +kernel
theorem dX11_leave_15 : decode cX11_leave 15 = .ok (.iconst 0, 1) := by decide +kernel
theorem dX11_leave_16 : decode cX11_leave 16 = .ok (.iastore, 1) := by decide +kernel
theorem dX11_leave_17 : decode cX11_leave 17 = .ok (.aload_n 0, 1) := by decide +kernel
theorem dX11_leave_18 : decode cX11_leave 18 = .ok (.getfield 96, 3) := by decide +kernel
theorem dX11_leave_21 : decode cX11_leave 21 = .ok (.iload_n 2, 1) := by decide +kernel
theorem dX11_leave_22 : decode cX11_leave 22 = .ok (.iaload, 1) := by decide +kernel
theorem dX11_leave_23 : decode cX11_leave 23 = .ok (.iconst (-1), 1) := by decide +kernel
theorem dX11_leave_24 : decode cX11_leave 24 = .ok (.if_icmp .eq 47, 3) := by decide +kernel
theorem dX11_leave_27 : decode cX11_leave 27 = .ok (.aload_n 0, 1) := by decide +kernel
theorem dX11_leave_28 : decode cX11_leave 28 = .ok (.getfield 96, 3) := by decide +kernel
theorem dX11_leave_31 : decode cX11_leave 31 = .ok (.iload_n 2, 1) := by decide +kernel
theorem dX11_leave_32 : decode cX11_leave 32 = .ok (.iaload, 1) := by decide +kernel
theorem dX11_leave_33 : decode cX11_leave 33 = .ok (.aload_n 0, 1) := by decide +kernel
theorem dX11_leave_34 : decode cX11_leave 34 = .ok (.getfield 26, 3) := by decide +kernel
theorem dX11_leave_37 : decode cX11_leave 37 = .ok (.if_icmp .gt 34, 3) := by decide +kernel
theorem dX11_leave_40 : decode cX11_leave 40 = .ok (.aload_n 0, 1) := by decide +kernel
theorem dX11_leave_41 : decode cX11_leave 41 = .ok (.iload_n 2, 1) := by decide +kernel
theorem dX11_leave_42 : decode cX11_leave 42 = .ok (.iload_n 1, 1) := by decide +kernel
theorem dX11_leave_43 : decode cX11_leave 43 = .ok (.aload_n 0, 1) := by decide +kernel
theorem dX11_leave_44 : decode cX11_leave 44 = .ok (.getfield 26, 3) := by decide +kernel
theorem dX11_leave_47 : decode cX11_leave 47 = .ok (.invokevirtual 102, 3) := by decide +kernel
theorem dX11_leave_50 : decode cX11_leave 50 = .ok (.ifCond .ne 21, 3) := by decide +kernel
theorem dX11_leave_53 : decode cX11_leave 53 = .ok (.aload_n 0, 1) := by decide +kernel
theorem dX11_leave_54 : decode cX11_leave 54 = .ok (.iconst 1, 1) := by decide +kernel
theorem dX11_leave_55 : decode cX11_leave 55 = .ok (.iload_n 2, 1) := by decide +kernel
theorem dX11_leave_56 : decode cX11_leave 56 = .ok (.iload_n 1, 1) := by decide +kernel
theorem dX11_leave_57 : decode cX11_leave 57 = .ok (.aload_n 0, 1) := by decide +kernel
theorem dX11_leave_58 : decode cX11_leave 58 = .ok (.getfield 26, 3) := by decide +kernel
theorem dX11_leave_61 : decode cX11_leave 61 = .ok (.invokevirtual 299, 3) := by decide +kernel
theorem dX11_leave_64 : decode cX11_leave 64 = .ok (.ifCond .ne 7, 3) := by decide +kernel
theorem dX11_leave_67 : decode cX11_leave 67 = .ok (.iconst 1, 1) := by decide +kernel
theorem dX11_leave_68 : decode cX11_leave 68 = .ok (.goto 4, 3) := by decide +kernel
theorem dX11_leave_71 : decode cX11_leave 71 = .ok (.iconst 0, 1) := by decide +kernel
theorem dX11_leave_72 : decode cX11_leave 72 = .ok (.istore_n 3, 1) := by decide +kernel
theorem dX11_leave_73 : decode cX11_leave 73 = .ok (.iload_n 3, 1) := by decide +kernel
theorem dX11_leave_74 : decode cX11_leave 74 = .ok (.ifCond .eq 61, 3) := by decide +kernel
theorem dX11_leave_77 : decode cX11_leave 77 = .ok (.iconst 0, 1) := by decide +kernel
theorem dX11_leave_78 : decode cX11_leave 78 = .ok (.bipush 100, 2) := by decide +kernel
theorem dX11_leave_80 : decode cX11_leave 80 = .ok (.aload_n 0, 1) := by decide +kernel
theorem dX11_leave_81 : decode cX11_leave 81 = .ok (.iconst 0, 1) := by decide +kernel
theorem dX11_leave_82 : decode cX11_leave 82 = .ok (.iload_n 2, 1) := by decide +kernel
theorem dX11_leave_83 : decode cX11_leave 83 = .ok (.iload_n 1, 1) := by decide +kernel
theorem dX11_leave_84 : decode cX11_leave 84 = .ok (.aload_n 0, 1) := by decide +kernel
theorem dX11_leave_85 : decode cX11_leave 85 = .ok (.getfield 26, 3) := by decide +kernel
theorem dX11_leave_88 : decode cX11_leave 88 = .ok (.invokevirtual 299, 3) := by decide +kernel
theorem dX11_leave_91 : decode cX11_leave 91 = .ok (.invokestatic 357, 3) := by decide +kernel
theorem dX11_leave_94 : decode cX11_leave 94 = .ok (.invokestatic 363, 3) := by decide +kernel
theorem dX11_leave_97 : decode cX11_leave 97 = .ok (.istore 4, 2) := by decide +kernel
theorem dX11_leave_99 : decode cX11_leave 99 = .ok (.aload_n 0, 1) := by decide +kernel
theorem dX11_leave_100 : decode cX11_leave 100 = .ok (.getfield 33, 3) := by decide +kernel
theorem dX11_leave_103 : decode cX11_leave 103 = .ok (.iload_n 2, 1) := by decide +kernel
theorem dX11_leave_104 : decode cX11_leave 104 = .ok (.iaload, 1) := by decide +kernel
theorem dX11_leave_105 : decode cX11_leave 105 = .ok (.iload 4, 2) := by decide +kernel
theorem dX11_leave_107 : decode cX11_leave 107 = .ok (.imul, 1) := by decide +kernel
theorem dX11_leave_108 : decode cX11_leave 108 = .ok (.bipush 100, 2) := by decide +kernel
theorem dX11_leave_110 : decode cX11_leave 110 = .ok (.idiv, 1) := by decide +kernel
theorem dX11_leave_111 : decode cX11_leave 111 = .ok (.istore 5, 2) := by decide +kernel
theorem dX11_leave_113 : decode cX11_leave 113 = .ok (.aload_n 0, 1) := by decide +kernel
theorem dX11_leave_114 : decode cX11_leave 114 = .ok (.getfield 33, 3) := by decide +kernel
theorem dX11_leave_117 : decode cX11_leave 117 = .ok (.iload_n 2, 1) := by decide +kernel
theorem dX11_leave_118 : decode cX11_leave 118 = .ok (.dup2, 1) := by decide +kernel
theorem dX11_leave_119 : decode cX11_leave 119 = .ok (.iaload, 1) := by decide +kernel
theorem dX11_leave_120 : decode cX11_leave 120 = .ok (.iload 5, 2) := by decide +kernel
theorem dX11_leave_122 : decode cX11_leave 122 = .ok (.isub, 1) := by decide +kernel
theorem dX11_leave_123 : decode cX11_leave 123 = .ok (.iastore, 1) := by decide +kernel
theorem dX11_leave_124 : decode cX11_leave 124 = .ok (.aload_n 0, 1) := by decide +kernel
theorem dX11_leave_125 : decode cX11_leave 125 = .ok (.getfield 93, 3) := by decide +kernel
theorem dX11_leave_128 : decode cX11_leave 128 = .ok (.iload_n 2, 1) := by decide +kernel
theorem dX11_leave_129 : decode cX11_leave 129 = .ok (.dup2, 1) := by decide +kernel
theorem dX11_leave_130 : decode cX11_leave 130 = .ok (.iaload, 1) := by decide +kernel
theorem dX11_leave_131 : decode cX11_leave 131 = .ok (.iload 5, 2) := by decide +kernel
theorem dX11_leave_133 : decode cX11_leave 133 = .ok (.iadd, 1) := by decide +kernel
theorem dX11_leave_134 : decode cX11_leave 134 = .ok (.iastore, 1) := by decide +kernel
theorem dX11_leave_135 : decode cX11_leave 135 = .ok (.iinc 2 1, 3) := by decide +kernel
theorem dX11_leave_138 : decode cX11_leave 138 = .ok (.goto (-136), 3) := by decide +kernel
theorem dX11_leave_141 : decode cX11_leave 141 = .ok (.return_, 1) := by decide +kernel
theorem dX11_move_0 : decode cX11_move 0 = .ok (.iconst 0, 1) := by decide +kernel
theorem dX11_move_1 : decode cX11_move 1 = .ok (.istore_n 2, 1) := by decide +kernel
theorem dX11_move_2 : decode cX11_move 2 = .ok (.iload_n 2, 1) := by decide +kernel
theorem dX11_move_3 : decode cX11_move 3 = .ok (.aload_n 0, 1) := by decide +kernel
theorem dX11_move_4 : decode cX11_move 4 = .ok (.getfield 10, 3) := by decide +kernel
theorem dX11_move_7 : decode cX11_move 7 = .ok (.if_icmp .ge 167, 3) := by decide +kernel
theorem dX11_move_10 : decode cX11_move 10 = .ok (.aload_n 0, 1) := by decide +kernel
theorem dX11_move_11 : decode cX11_move 11 = .ok (.getfield 74, 3) := by decide +kernel
theorem dX11_move_14 : decode cX11_move 14 = .ok (.aload_n 0, 1) := by decide +kernel
theorem dX11_move_15 : decode cX11_move 15 = .ok (.getfield 59, 3) := by decide +kernel
theorem dX11_move_18 : decode cX11_move 18 = .ok (.iload_n 2, 1) := by decide +kernel
theorem dX11_move_19 : decode cX11_move 19 = .ok (.iaload, 1) := by decide +kernel
theorem dX11_move_20 : decode cX11_move 20 = .ok (.iaload, 1) := by decide +kernel
theorem dX11_move_21 : decode cX11_move 21 = .ok (.iload_n 2, 1) := by decide +kernel
theorem dX11_move_22 : decode cX11_move 22 = .ok (.if_icmp .eq 6, 3) := by decide +kernel
theorem dX11_move_25 : decode cX11_move 25 = .ok (.goto 143, 3) := by decide +kernel
theorem dX11_move_28 : decode cX11_move 28 = .ok (.aload_n 0, 1) := by decide +kernel
theorem dX11_move_29 : decode cX11_move 29 = .ok (.iload_n 2, 1) := by decide +kernel
theorem dX11_move_30 : decode cX11_move 30 = .ok (.iload_n 1, 1) := by decide +kernel
theorem dX11_move_31 : decode cX11_move 31 = .ok (.aload_n 0, 1) := by decide +kernel
theorem dX11_move_32 : decode cX11_move 32 = .ok (.getfield 26, 3) := by decide +kernel
theorem dX11_move_35 : decode cX11_move 35 = .ok (.invokevirtual 116, 3) := by decide +kernel
theorem dX11_move_38 : decode cX11_move 38 = .ok (.aload_n 0, 1) := by decide +kernel
theorem dX11_move_39 : decode cX11_move 39 = .ok (.getfield 93, 3) := by decide +kernel
theorem dX11_move_42 : decode cX11_move 42 = .ok (.aload_n 0, 1) := by decide +kernel
theorem dX11_move_43 : decode cX11_move 43 = .ok (.getfield 59, 3) := by decide +kernel
theorem dX11_move_46 : decode cX11_move 46 = .ok (.iload_n 2, 1) := by decide +kernel
theorem dX11_move_47 : decode cX11_move 47 = .ok (.iaload, 1) := by decide +kernel
theorem dX11_move_48 : decode cX11_move 48 = .ok (.iaload, 1) := by decide +kernel
theorem dX11_move_49 : decode cX11_move 49 = .ok (.invokestatic 357, 3) := by decide +kernel
theorem dX11_move_52 : decode cX11_move 52 = .ok (.istore_n 3, 1) := by decide +kernel
theorem dX11_move_53 : decode cX11_move 53 = .ok (.aload_n 0, 1) := by decide +kernel
theorem dX11_move_54 : decode cX11_move 54 = .ok (.getfield 62, 3) := by decide +kernel
theorem dX11_move_57 : decode cX11_move 57 = .ok (.iload_n 2, 1) := by decide +kernel
theorem dX11_move_58 : decode cX11_move 58 = .ok (.iaload, 1) := by decide +kernel
theorem dX11_move_59 : decode cX11_move 59 = .ok (.bipush 10, 2) := by decide +kernel
theorem dX11_move_61 : decode cX11_move 61 = .ok (.if_icmp .lt 53, 3) := by decide +kernel
theorem dX11_move_64 : decode cX11_move 64 = .ok (.aload_n 0, 1) := by decide +kernel
theorem dX11_move_65 : decode cX11_move 65 = .ok (.getfield 62, 3) := by decide +kernel
theorem dX11_move_68 : decode cX11_move 68 = .ok (.iload_n 2, 1) := by decide +kernel
theorem dX11_move_69 : decode cX11_move 69 = .ok (.iaload, 1) := by decide +kernel
theorem dX11_move_70 : decode cX11_move 70 = .ok (.bipush 20, 2) := by decide +kernel
theorem dX11_move_72 : decode cX11_move 72 = .ok (.if_icmp .ge 42, 3) := by decide +kernel
theorem dX11_move_75 : decode cX11_move 75 = .ok (.iload_n 3, 1) := by decide +kernel
theorem dX11_move_76 : decode cX11_move 76 = .ok (.aload_n 0, 1) := by decide +kernel
theorem dX11_move_77 : decode cX11_move 77 = .ok (.aload_n 0, 1) := by decide +kernel
theorem dX11_move_78 : decode cX11_move 78 = .ok (.getfield 62, 3) := by decide +kernel
theorem dX11_move_81 : decode cX11_move 81 = .ok (.iload_n 2, 1) := by decide +kernel
theorem dX11_move_82 : decode cX11_move 82 = .ok (.iaload, 1) := by decide +kernel
theorem dX11_move_83 : decode cX11_move 83 = .ok (.bipush 10, 2) := by decide +kernel
theorem dX11_move_85 : decode cX11_move 85 = .ok (.isub, 1) := by decide +kernel
theorem dX11_move_86 : decode cX11_move 86 = .ok (.invokevirtual 112, 3) := by decide +kernel
theorem dX11_move_89 : decode cX11_move 89 = .ok (.invokestatic 357, 3) := by decide +kernel
theorem dX11_move_92 : decode cX11_move 92 = .ok (.istore_n 3, 1) := by decide +kernel
theorem dX11_move_93 : decode cX11_move 93 = .ok (.aload_n 0, 1) := by decide +kernel
theorem dX11_move_94 : decode cX11_move 94 = .ok (.getfield 106, 3) := by decide +kernel
theorem dX11_move_97 : decode cX11_move 97 = .ok (.aload_n 0, 1) := by decide +kernel
theorem dX11_move_98 : decode cX11_move 98 = .ok (.getfield 62, 3) := by decide +kernel
theorem dX11_move_101 : decode cX11_move 101 = .ok (.iload_n 2, 1) := by decide +kernel
theorem dX11_move_102 : decode cX11_move 102 = .ok (.iaload, 1) := by decide +kernel
theorem dX11_move_103 : decode cX11_move 103 = .ok (.bipush 10, 2) := by decide +kernel
theorem dX11_move_105 : decode cX11_move 105 = .ok (.isub, 1) := by decide +kernel
theorem dX11_move_106 : decode cX11_move 106 = .ok (.dup2, 1) := by decide +kernel
theorem dX11_move_107 : decode cX11_move 107 = .ok (.iaload, 1) := by decide +kernel
theorem dX11_move_108 : decode cX11_move 108 = .ok (.iload_n 3, 1) := by decide +kernel
theorem dX11_move_109 : decode cX11_move 109 = .ok (.iadd, 1) := by decide +kernel
theorem dX11_move_110 : decode cX11_move 110 = .ok (.iastore, 1) := by decide +kernel
theorem dX11_move_111 : decode cX11_move 111 = .ok (.goto 42, 3) := by decide +kernel
theorem dX11_move_114 : decode cX11_move 114 = .ok (.aload_n 0, 1) := by decide +kernel
theorem dX11_move_115 : decode cX11_move 115 = .ok (.getfield 62, 3) := by decide +kernel
theorem dX11_move_118 : decode cX11_move 118 = .ok (.iload_n 2, 1) := by decide +kernel
theorem dX11_move_119 : decode cX11_move 119 = .ok (.iaload, 1) := by decide +kernel
theorem dX11_move_120 : decode cX11_move 120 = .ok (.bipush 20, 2) := by decide +kernel
theorem dX11_move_122 : decode cX11_move 122 = .ok (.if_icmp .ne 16, 3) := by decide +kernel
theorem dX11_move_125 : decode cX11_move 125 = .ok (.aload_n 0, 1) := by decide +kernel
theorem dX11_move_126 : decode cX11_move 126 = .ok (.dup, 1) := by decide +kernel
theorem dX11_move_127 : decode cX11_move 127 = .ok (.getfield 366, 3) := by decide +kernel
theorem dX11_move_130 : decode cX11_move 130 = .ok (.iload_n 3, 1) := by decide +kernel
theorem dX11_move_131 : decode cX11_move 131 = .ok (.iadd, 1) := by decide +kernel
theorem dX11_move_132 : decode cX11_move 132 = .ok (.putfield 366, 3) := by decide +kernel
theorem dX11_move_135 : decode cX11_move 135 = .ok (.goto 18, 3) := by decide +kernel
theorem dX11_move_138 : decode cX11_move 138 = .ok (.aload_n 0, 1) := by decide +kernel
theorem dX11_move_139 : decode cX11_move 139 = .ok (.getfield 309, 3) := by decide +kernel
theorem dX11_move_142 : decode cX11_move 142 = .ok (.aload_n 0, 1) := by decide +kernel
theorem dX11_move_143 : decode cX11_move 143 = .ok (.getfield 62, 3) := by decide +kernel
theorem dX11_move_146 : decode cX11_move 146 = .ok (.iload_n 2, 1) := by decide +kernel
theorem dX11_move_147 : decode cX11_move 147 = .ok (.iaload, 1) := by decide +kernel
theorem dX11_move_148 : decode cX11_move 148 = .ok (.dup2, 1) := by decide +kernel
theorem dX11_move_149 : decode cX11_move 149 = .ok (.iaload, 1) := by decide +kernel
theorem dX11_move_150 : decode cX11_move 150 = .ok (.iload_n 3, 1) := by decide +kernel
theorem dX11_move_151 : decode cX11_move 151 = .ok (.iadd, 1) := by decide +kernel
theorem dX11_move_152 : decode cX11_move 152 = .ok (.iastore, 1) := by decide +kernel
theorem dX11_move_153 : decode cX11_move 153 = .ok (.aload_n 0, 1) := by decide +kernel
theorem dX11_move_154 : decode cX11_move 154 = .ok (.getfield 93, 3) := by decide +kernel
theorem dX11_move_157 : decode cX11_move 157 = .ok (.aload_n 0, 1) := by decide +kernel
theorem dX11_move_158 : decode cX11_move 158 = .ok (.getfield 59, 3) := by decide +kernel
theorem dX11_move_161 : decode cX11_move 161 = .ok (.iload_n 2, 1) := by decide +kernel
theorem dX11_move_162 : decode cX11_move 162 = .ok (.iaload, 1) := by decide +kernel
theorem dX11_move_163 : decode cX11_move 163 = .ok (.dup2, 1) := by decide +kernel
theorem dX11_move_164 : decode cX11_move 164 = .ok (.iaload, 1) := by decide +kernel
theorem dX11_move_165 : decode cX11_move 165 = .ok (.iload_n 3, 1) := by decide +kernel
theorem dX11_move_166 : decode cX11_move 166 = .ok (.isub, 1) := by decide +kernel
theorem dX11_move_167 : decode cX11_move 167 = .ok (.iastore, 1) := by decide +kernel
theorem dX11_move_168 : decode cX11_move 168 = .ok (.iinc 2 1, 3) := by decide +kernel
theorem dX11_move_171 : decode cX11_move 171 = .ok (.goto (-169), 3) := by decide +kernel
theorem dX11_move_174 : decode cX11_move 174 = .ok (.iconst 0, 1) := by decide +kernel
theorem dX11_move_175 : decode cX11_move 175 = .ok (.istore_n 2, 1) := by decide +kernel
theorem dX11_move_176 : decode cX11_move 176 = .ok (.iload_n 2, 1) := by decide +kernel
theorem dX11_move_177 : decode cX11_move 177 = .ok (.aload_n 0, 1) := by decide +kernel
theorem dX11_move_178 : decode cX11_move 178 = .ok (.getfield 1, 3) := by decide +kernel
theorem dX11_move_181 : decode cX11_move 181 = .ok (.if_icmp .ge 24, 3) := by decide +kernel
theorem dX11_move_184 : decode cX11_move 184 = .ok (.aload_n 0, 1) := by decide +kernel
theorem dX11_move_185 : decode cX11_move 185 = .ok (.getfield 93, 3) := by decide +kernel
theorem dX11_move_188 : decode cX11_move 188 = .ok (.iload_n 2, 1) := by decide +kernel
theorem dX11_move_189 : decode cX11_move 189 = .ok (.dup2, 1) := by decide +kernel
theorem dX11_move_190 : decode cX11_move 190 = .ok (.iaload, 1) := by decide +kernel
theorem dX11_move_191 : decode cX11_move 191 = .ok (.aload_n 0, 1) := by decide +kernel
theorem dX11_move_192 : decode cX11_move 192 = .ok (.getfield 309, 3) := by decide +kernel
theorem dX11_move_195 : decode cX11_move 195 = .ok (.iload_n 2, 1) := by decide +kernel
theorem dX11_move_196 : decode cX11_move 196 = .ok (.iaload, 1) := by decide +kernel
theorem dX11_move_197 : decode cX11_move 197 = .ok (.iadd, 1) := by decide +kernel
theorem dX11_move_198 : decode cX11_move 198 = .ok (.iastore, 1) := by decide +kernel
theorem dX11_move_199 : decode cX11_move 199 = .ok (.iinc 2 1, 3) := by decide +kernel
theorem dX11_move_202 : decode cX11_move 202 = .ok (.goto (-26), 3) := by decide +kernel
theorem dX11_move_205 : decode cX11_move 205 = .ok (.return_, 1) := by decide +kernel
theorem dX11_ride_0 : decode cX11_ride 0 = .ok (.iconst 0, 1) := by decide +kernel
theorem dX11_ride_1 : decode cX11_ride 1 = .ok (.istore_n 2, 1) := by decide +kernel
theorem dX11_ride_2 : decode cX11_ride 2 = .ok (.iload_n 2, 1) := by decide +kernel
theorem dX11_ride_3 : decode cX11_ride 3 = .ok (.aload_n 0, 1) := by decide +kernel
theorem dX11_ride_4 : decode cX11_ride 4 = .ok (.getfield 13, 3) := by decide +kernel
theorem dX11_ride_7 : decode cX11_ride 7 = .ok (.if_icmp .ge 143, 3) := by decide +kernel
theorem dX11_ride_10 : decode cX11_ride 10 = .ok (.aload_n 0, 1) := by decide +kernel
theorem dX11_ride_11 : decode cX11_ride 11 = .ok (.getfield 79, 3) := by decide +kernel
theorem dX11_ride_14 : decode cX11_ride 14 = .ok (.iload_n 2, 1) := by decide +kernel
theorem dX11_ride_15 : decode cX11_ride 15 = .ok (.iaload, 1) := by decide +kernel
theorem dX11_ride_16 : decode cX11_ride 16 = .ok (.istore_n 3, 1) := by decide +kernel
theorem dX11_ride_17 : decode cX11_ride 17 = .ok (.aload_n 0, 1) := by decide +kernel
theorem dX11_ride_18 : decode cX11_ride 18 = .ok (.getfield 125, 3) := by decide +kernel
theorem dX11_ride_21 : decode cX11_ride 21 = .ok (.iload_n 2, 1) := by decide +kernel
theorem dX11_ride_22 : decode cX11_ride 22 = .ok (.iaload, 1) := by decide +kernel
theorem dX11_ride_23 : decode cX11_ride 23 = .ok (.iconst (-1), 1) := by decide +kernel
theorem dX11_ride_24 : decode cX11_ride 24 = .ok (.if_icmp .ne 120, 3) := by decide +kernel
theorem dX11_ride_27 : decode cX11_ride 27 = .ok (.aload_n 0, 1) := by decide +kernel
theorem dX11_ride_28 : decode cX11_ride 28 = .ok (.iload_n 3, 1) := by decide +kernel
theorem dX11_ride_29 : decode cX11_ride 29 = .ok (.iload_n 1, 1) := by decide +kernel
theorem dX11_ride_30 : decode cX11_ride 30 = .ok (.aload_n 0, 1) := by decide +kernel
theorem dX11_ride_31 : decode cX11_ride 31 = .ok (.getfield 26, 3) := by decide +kernel
theorem dX11_ride_34 : decode cX11_ride 34 = .ok (.invokevirtual 102, 3) := by decide +kernel
theorem dX11_ride_37 : decode cX11_ride 37 = .ok (.ifCond .ne 107, 3) := by decide +kernel
theorem dX11_ride_40 : decode cX11_ride 40 = .ok (.aload_n 0, 1) := by decide +kernel
theorem dX11_ride_41 : decode cX11_ride 41 = .ok (.iconst 1, 1) := by decide +kernel
theorem dX11_ride_42 : decode cX11_ride 42 = .ok (.iload_n 3, 1) := by decide +kernel
theorem dX11_ride_43 : decode cX11_ride 43 = .ok (.iload_n 1, 1) := by decide +kernel
theorem dX11_ride_44 : decode cX11_ride 44 = .ok (.aload_n 0, 1) := by decide +kernel
theorem dX11_ride_45 : decode cX11_ride 45 = .ok (.getfield 26, 3) := by decide +kernel
theorem dX11_ride_48 : decode cX11_ride 48 = .ok (.invokevirtual 299, 3) := by decide +kernel
theorem dX11_ride_51 : decode cX11_ride 51 = .ok (.ifCond .eq 6, 3) := by decide +kernel
theorem dX11_ride_54 : decode cX11_ride 54 = .ok (.goto 90, 3) := by decide +kernel
theorem dX11_ride_57 : decode cX11_ride 57 = .ok (.aload_n 0, 1) := by decide +kernel
theorem dX11_ride_58 : decode cX11_ride 58 = .ok (.getfield 36, 3) := by decide +kernel
theorem dX11_ride_61 : decode cX11_ride 61 = .ok (.iload_n 3, 1) := by decide +kernel
theorem dX11_ride_62 : decode cX11_ride 62 = .ok (.iaload, 1) := by decide +kernel
theorem dX11_ride_63 : decode cX11_ride 63 = .ok (.aload_n 0, 1) := by decide +kernel
theorem dX11_ride_64 : decode cX11_ride 64 = .ok (.getfield 85, 3) := by decide +kernel
theorem dX11_ride_67 : decode cX11_ride 67 = .ok (.iload_n 2, 1) := by decide +kernel
theorem dX11_ride_68 : decode cX11_ride 68 = .ok (.iaload, 1) := by decide +kernel
theorem dX11_ride_69 : decode cX11_ride 69 = .ok (.aload_n 0, 1) := by decide +kernel
theorem dX11_ride_70 : decode cX11_ride 70 = .ok (.aload_n 0, 1) := by decide +kernel
theorem dX11_ride_71 : decode cX11_ride 71 = .ok (.getfield 82, 3) := by decide +kernel
theorem dX11_ride_74 : decode cX11_ride 74 = .ok (.iload_n 2, 1) := by decide +kernel
theorem dX11_ride_75 : decode cX11_ride 75 = .ok (.iaload, 1) := by decide +kernel
theorem dX11_ride_76 : decode cX11_ride 76 = .ok (.invokevirtual 112, 3) := by decide +kernel
theorem dX11_ride_79 : decode cX11_ride 79 = .ok (.invokestatic 357, 3) := by decide +kernel
theorem dX11_ride_82 : decode cX11_ride 82 = .ok (.invokestatic 357, 3) := by decide +kernel
theorem dX11_ride_85 : decode cX11_ride 85 = .ok (.istore 4, 2) := by decide +kernel
theorem dX11_ride_87 : decode cX11_ride 87 = .ok (.iload 4, 2) := by decide +kernel
theorem dX11_ride_89 : decode cX11_ride 89 = .ok (.ifCond .le 55, 3) := by decide +kernel
theorem dX11_ride_92 : decode cX11_ride 92 = .ok (.aload_n 0, 1) := by decide +kernel
theorem dX11_ride_93 : decode cX11_ride 93 = .ok (.getfield 36, 3) := by decide +kernel
theorem dX11_ride_96 : decode cX11_ride 96 = .ok (.iload_n 3, 1) := by decide +kernel
theorem dX11_ride_97 : decode cX11_ride 97 = .ok (.dup2, 1) := by decide +kernel
theorem dX11_ride_98 : decode cX11_ride 98 = .ok (.iaload, 1) := by decide +kernel
theorem dX11_ride_99 : decode cX11_ride 99 = .ok (.iload 4, 2) := by decide +kernel
theorem dX11_ride_101 : decode cX11_ride 101 = .ok (.isub, 1) := by decide +kernel
theorem dX11_ride_102 : decode cX11_ride 102 = .ok (.iastore, 1) := by decide +kernel
theorem dX11_ride_103 : decode cX11_ride 103 = .ok (.aload_n 0, 1) := by decide +kernel
theorem dX11_ride_104 : decode cX11_ride 104 = .ok (.getfield 128, 3) := by decide +kernel
theorem dX11_ride_107 : decode cX11_ride 107 = .ok (.iload_n 2, 1) := by decide +kernel
theorem dX11_ride_108 : decode cX11_ride 108 = .ok (.iload 4, 2) := by decide +kernel
theorem dX11_ride_110 : decode cX11_ride 110 = .ok (.iastore, 1) := by decide +kernel
theorem dX11_ride_111 : decode cX11_ride 111 = .ok (.aload_n 0, 1) := by decide +kernel
theorem dX11_ride_112 : decode cX11_ride 112 = .ok (.getfield 109, 3) := by decide +kernel
theorem dX11_ride_115 : decode cX11_ride 115 = .ok (.aload_n 0, 1) := by decide +kernel
theorem dX11_ride_116 : decode cX11_ride 116 = .ok (.getfield 82, 3) := by decide +kernel
theorem dX11_ride_119 : decode cX11_ride 119 = .ok (.iload_n 2, 1) := by decide +kernel
theorem dX11_ride_120 : decode cX11_ride 120 = .ok (.iaload, 1) := by decide +kernel
theorem dX11_ride_121 : decode cX11_ride 121 = .ok (.dup2, 1) := by decide +kernel
theorem dX11_ride_122 : decode cX11_ride 122 = .ok (.iaload, 1) := by decide +kernel
theorem dX11_ride_123 : decode cX11_ride 123 = .ok (.iload 4, 2) := by decide +kernel
theorem dX11_ride_125 : decode cX11_ride 125 = .ok (.iadd, 1) := by decide +kernel
theorem dX11_ride_126 : decode cX11_ride 126 = .ok (.iastore, 1) := by decide +kernel
theorem dX11_ride_127 : decode cX11_ride 127 = .ok (.aload_n 0, 1) := by decide +kernel
theorem dX11_ride_128 : decode cX11_ride 128 = .ok (.getfield 125, 3) := by decide +kernel
theorem dX11_ride_131 : decode cX11_ride 131 = .ok (.iload_n 2, 1) := by decide +kernel
theorem dX11_ride_132 : decode cX11_ride 132 = .ok (.aload_n 0, 1) := by decide +kernel
theorem dX11_ride_133 : decode cX11_ride 133 = .ok (.getfield 26, 3) := by decide +kernel
theorem dX11_ride_136 : decode cX11_ride 136 = .ok (.aload_n 0, 1) := by decide +kernel
theorem dX11_ride_137 : decode cX11_ride 137 = .ok (.getfield 88, 3) := by decide +kernel
theorem dX11_ride_140 : decode cX11_ride 140 = .ok (.iload_n 2, 1) := by decide +kernel
theorem dX11_ride_141 : decode cX11_ride 141 = .ok (.iaload, 1) := by decide +kernel
theorem dX11_ride_142 : decode cX11_ride 142 = .ok (.iadd, 1) := by decide +kernel
theorem dX11_ride_143 : decode cX11_ride 143 = .ok (.iastore, 1) := by decide +kernel
theorem dX11_ride_144 : decode cX11_ride 144 = .ok (.iinc 2 1, 3) := by decide +kernel
theorem dX11_ride_147 : decode cX11_ride 147 = .ok (.goto (-145), 3) := by decide +kernel
theorem dX11_ride_150 : decode cX11_ride 150 = .ok (.return_, 1) := by decide +kernel
theorem dX11_step_0 : decode cX11_step 0 = .ok (.aload_n 0, 1) := by decide +kernel
theorem dX11_step_1 : decode cX11_step 1 = .ok (.iload_n 1, 1) := by decide +kernel
theorem dX11_step_2 : decode cX11_step 2 = .ok (.invokevirtual 369, 3) := by decide +kernel
theorem dX11_step_5 : decode cX11_step 5 = .ok (.aload_n 0, 1) := by decide +kernel
theorem dX11_step_6 : decode cX11_step 6 = .ok (.iload_n 1, 1) := by decide +kernel
theorem dX11_step_7 : decode cX11_step 7 = .ok (.invokevirtual 372, 3) := by decide +kernel
theorem dX11_step_10 : decode cX11_step 10 = .ok (.aload_n 0, 1) := by decide +kernel
theorem dX11_step_11 : decode cX11_step 11 = .ok (.iload_n 1, 1) := by decide +kernel
theorem dX11_step_12 : decode cX11_step 12 = .ok (.invokevirtual 375, 3) := by decide +kernel
theorem dX11_step_15 : decode cX11_step 15 = .ok (.aload_n 0, 1) := by decide +kernel
theorem dX11_step_16 : decode cX11_step 16 = .ok (.dup, 1) := by decide +kernel
theorem dX11_step_17 : decode cX11_step 17 = .ok (.getfield 26, 3) := by decide +kernel
theorem dX11_step_20 : decode cX11_step 20 = .ok (.iconst 1, 1) := by decide +kernel
theorem dX11_step_21 : decode cX11_step 21 = .ok (.iadd, 1) := by decide +kernel
theorem dX11_step_22 : decode cX11_step 22 = .ok (.putfield 26, 3) := by decide +kernel
theorem dX11_step_25 : decode cX11_step 25 = .ok (.iconst 0, 1) := by decide +kernel
theorem dX11_step_26 : decode cX11_step 26 = .ok (.istore_n 2, 1) := by decide +kernel
theorem dX11_step_27 : decode cX11_step 27 = .ok (.iload_n 2, 1) := by decide +kernel
theorem dX11_step_28 : decode cX11_step 28 = .ok (.aload_n 0, 1) := by decide +kernel
theorem dX11_step_29 : decode cX11_step 29 = .ok (.getfield 13, 3) := by decide +kernel
theorem dX11_step_32 : decode cX11_step 32 = .ok (.if_icmp .ge 86, 3) := by decide +kernel
theorem dX11_step_35 : decode cX11_step 35 = .ok (.aload_n 0, 1) := by decide +kernel
theorem dX11_step_36 : decode cX11_step 36 = .ok (.getfield 125, 3) := by decide +kernel
theorem dX11_step_39 : decode cX11_step 39 = .ok (.iload_n 2, 1) := by decide +kernel
theorem dX11_step_40 : decode cX11_step 40 = .ok (.iaload, 1) := by decide +kernel
theorem dX11_step_41 : decode cX11_step 41 = .ok (.iconst (-1), 1) := by decide +kernel
theorem dX11_step_42 : decode cX11_step 42 = .ok (.if_icmp .eq 70, 3) := by decide +kernel
theorem dX11_step_45 : decode cX11_step 45 = .ok (.aload_n 0, 1) := by decide +kernel
theorem dX11_step_46 : decode cX11_step 46 = .ok (.getfield 125, 3) := by decide +kernel
theorem dX11_step_49 : decode cX11_step 49 = .ok (.iload_n 2, 1) := by decide +kernel
theorem dX11_step_50 : decode cX11_step 50 = .ok (.iaload, 1) := by decide +kernel
theorem dX11_step_51 : decode cX11_step 51 = .ok (.aload_n 0, 1) := by decide +kernel
theorem dX11_step_52 : decode cX11_step 52 = .ok (.getfield 26, 3) := by decide +kernel
theorem dX11_step_55 : decode cX11_step 55 = .ok (.if_icmp .gt 57, 3) := by decide +kernel
theorem dX11_step_58 : decode cX11_step 58 = .ok (.aload_n 0, 1) := by decide +kernel
theorem dX11_step_59 : decode cX11_step 59 = .ok (.getfield 106, 3) := by decide +kernel
theorem dX11_step_62 : decode cX11_step 62 = .ok (.aload_n 0, 1) := by decide +kernel
theorem dX11_step_63 : decode cX11_step 63 = .ok (.getfield 82, 3) := by decide +kernel
theorem dX11_step_66 : decode cX11_step 66 = .ok (.iload_n 2, 1) := by decide +kernel
theorem dX11_step_67 : decode cX11_step 67 = .ok (.iaload, 1) := by decide +kernel
theorem dX11_step_68 : decode cX11_step 68 = .ok (.dup2, 1) := by decide +kernel
theorem dX11_step_69 : decode cX11_step 69 = .ok (.iaload, 1) := by decide +kernel
theorem dX11_step_70 : decode cX11_step 70 = .ok (.aload_n 0, 1) := by decide +kernel
theorem dX11_step_71 : decode cX11_step 71 = .ok (.getfield 128, 3) := by decide +kernel
theorem dX11_step_74 : decode cX11_step 74 = .ok (.iload_n 2, 1) := by decide +kernel
theorem dX11_step_75 : decode cX11_step 75 = .ok (.iaload, 1) := by decide +kernel
theorem dX11_step_76 : decode cX11_step 76 = .ok (.iadd, 1) := by decide +kernel
theorem dX11_step_77 : decode cX11_step 77 = .ok (.iastore, 1) := by decide +kernel
theorem dX11_step_78 : decode cX11_step 78 = .ok (.aload_n 0, 1) := by decide +kernel
theorem dX11_step_79 : decode cX11_step 79 = .ok (.getfield 109, 3) := by decide +kernel
theorem dX11_step_82 : decode cX11_step 82 = .ok (.aload_n 0, 1) := by decide +kernel
theorem dX11_step_83 : decode cX11_step 83 = .ok (.getfield 82, 3) := by decide +kernel
theorem dX11_step_86 : decode cX11_step 86 = .ok (.iload_n 2, 1) := by decide +kernel
theorem dX11_step_87 : decode cX11_step 87 = .ok (.iaload, 1) := by decide +kernel
theorem dX11_step_88 : decode cX11_step 88 = .ok (.dup2, 1) := by decide +kernel
theorem dX11_step_89 : decode cX11_step 89 = .ok (.iaload, 1) := by decide +kernel
theorem dX11_step_90 : decode cX11_step 90 = .ok (.aload_n 0, 1) := by decide +kernel
theorem dX11_step_91 : decode cX11_step 91 = .ok (.getfield 128, 3) := by decide +kernel
theorem dX11_step_94 : decode cX11_step 94 = .ok (.iload_n 2, 1) := by decide +kernel
theorem dX11_step_95 : decode cX11_step 95 = .ok (.iaload, 1) := by decide +kernel
theorem dX11_step_96 : decode cX11_step 96 = .ok (.isub, 1) := by decide +kernel
theorem dX11_step_97 : decode cX11_step 97 = .ok (.iastore, 1) := by decide +kernel
theorem dX11_step_98 : decode cX11_step 98 = .ok (.aload_n 0, 1) := by decide +kernel
theorem dX11_step_99 : decode cX11_step 99 = .ok (.getfield 128, 3) := by decide +kernel
theorem dX11_step_102 : decode cX11_step 102 = .ok (.iload_n 2, 1) := by decide +kernel
theorem dX11_step_103 : decode cX11_step 103 = .ok (.iconst 0, 1) := by decide +kernel
theorem dX11_step_104 : decode cX11_step 104 = .ok (.iastore, 1) := by decide +kernel
theorem dX11_step_105 : decode cX11_step 105 = .ok (.aload_n 0, 1) := by decide +kernel
theorem dX11_step_106 : decode cX11_step 106 = .ok (.getfield 125, 3) := by decide +kernel
theorem dX11_step_109 : decode cX11_step 109 = .ok (.iload_n 2, 1) := by decide +kernel
theorem dX11_step_110 : decode cX11_step 110 = .ok (.iconst (-1), 1) := by decide +kernel
theorem dX11_step_111 : decode cX11_step 111 = .ok (.iastore, 1) := by decide +kernel
theorem dX11_step_112 : decode cX11_step 112 = .ok (.iinc 2 1, 3) := by decide +kernel
theorem dX11_step_115 : decode cX11_step 115 = .ok (.goto (-88), 3) := by decide +kernel
theorem dX11_step_118 : decode cX11_step 118 = .ok (.return_, 1) := by decide +kernel
theorem dX11_pass_0 : decode cX11_pass 0 = .ok (.iload_n 1, 1) := by decide +kernel
theorem dX11_pass_1 : decode cX11_pass 1 = .ok (.i2l, 1) := by decide +kernel
theorem dX11_pass_2 : decode cX11_pass 2 = .ok (.lconst 1, 1) := by decide +kernel
theorem dX11_pass_3 : decode cX11_pass 3 = .ok (.ldc2_w 134, 3) := by decide +kernel
theorem dX11_pass_6 : decode cX11_pass 6 = .ok (.invokestatic 18, 3) := by decide +kernel
theorem dX11_pass_9 : decode cX11_pass 9 = .ok (.ifCond .ne 6, 3) := by decide +kernel
theorem dX11_pass_12 : decode cX11_pass 12 = .ok (.bipush (-2), 2) := by decide +kernel
theorem dX11_pass_14 : decode cX11_pass 14 = .ok (.ireturn, 1) := by decide +kernel
theorem dX11_pass_15 : decode cX11_pass 15 = .ok (.aload_n 0, 1) := by decide +kernel
theorem dX11_pass_16 : decode cX11_pass 16 = .ok (.getfield 26, 3) := by decide +kernel
theorem dX11_pass_19 : decode cX11_pass 19 = .ok (.iload_n 1, 1) := by decide +kernel
theorem dX11_pass_20 : decode cX11_pass 20 = .ok (.iadd, 1) := by decide +kernel
theorem dX11_pass_21 : decode cX11_pass 21 = .ok (.aload_n 0, 1) := by decide +kernel
theorem dX11_pass_22 : decode cX11_pass 22 = .ok (.getfield 136, 3) := by decide +kernel
theorem dX11_pass_25 : decode cX11_pass 25 = .ok (.if_icmp .le 6, 3) := by decide +kernel
theorem dX11_pass_28 : decode cX11_pass 28 = .ok (.bipush (-4), 2) := by decide +kernel
theorem dX11_pass_30 : decode cX11_pass 30 = .ok (.ireturn, 1) := by decide +kernel
theorem dX11_pass_31 : decode cX11_pass 31 = .ok (.iconst 0, 1) := by decide +kernel
theorem dX11_pass_32 : decode cX11_pass 32 = .ok (.istore_n 2, 1) := by decide +kernel
theorem dX11_pass_33 : decode cX11_pass 33 = .ok (.iload_n 2, 1) := by decide +kernel
theorem dX11_pass_34 : decode cX11_pass 34 = .ok (.iload_n 1, 1) := by decide +kernel
theorem dX11_pass_35 : decode cX11_pass 35 = .ok (.if_icmp .ge 17, 3) := by decide +kernel
theorem dX11_pass_38 : decode cX11_pass 38 = .ok (.aload_n 0, 1) := by decide +kernel
theorem dX11_pass_39 : decode cX11_pass 39 = .ok (.aload_n 0, 1) := by decide +kernel
theorem dX11_pass_40 : decode cX11_pass 40 = .ok (.getfield 99, 3) := by decide +kernel
theorem dX11_pass_43 : decode cX11_pass 43 = .ok (.invokevirtual 378, 3) := by decide +kernel
theorem dX11_pass_46 : decode cX11_pass 46 = .ok (.iinc 2 1, 3) := by decide +kernel
theorem dX11_pass_49 : decode cX11_pass 49 = .ok (.goto (-16), 3) := by decide +kernel
theorem dX11_pass_52 : decode cX11_pass 52 = .ok (.aload_n 0, 1) := by decide +kernel
theorem dX11_pass_53 : decode cX11_pass 53 = .ok (.getfield 26, 3) := by decide +kernel
theorem dX11_pass_56 : decode cX11_pass 56 = .ok (.ireturn, 1) := by decide +kernel
theorem dX11_inWaterOf_0 : decode cX11_inWaterOf 0 = .ok (.iconst 0, 1) := by decide +kernel
theorem dX11_inWaterOf_1 : decode cX11_inWaterOf 1 = .ok (.istore_n 2, 1) := by decide +kernel
theorem dX11_inWaterOf_2 : decode cX11_inWaterOf 2 = .ok (.iconst 0, 1) := by decide +kernel
theorem dX11_inWaterOf_3 : decode cX11_inWaterOf 3 = .ok (.istore_n 3, 1) := by decide +kernel
theorem dX11_inWaterOf_4 : decode cX11_inWaterOf 4 = .ok (.iload_n 3, 1) := by decide +kernel
theorem dX11_inWaterOf_5 : decode cX11_inWaterOf 5 = .ok (.aload_n 0, 1) := by decide +kernel
theorem dX11_inWaterOf_6 : decode cX11_inWaterOf 6 = .ok (.getfield 1, 3) := by decide +kernel
theorem dX11_inWaterOf_9 : decode cX11_inWaterOf 9 = .ok (.if_icmp .ge 49, 3) := by decide +kernel
theorem dX11_inWaterOf_12 : decode cX11_inWaterOf 12 = .ok (.iload_n 2, 1) := by decide +kernel
theorem dX11_inWaterOf_13 : decode cX11_inWaterOf 13 = .ok (.aload_n 0, 1) := by decide +kernel
theorem dX11_inWaterOf_14 : decode cX11_inWaterOf 14 = .ok (.iload_n 3, 1) := by decide +kernel
theorem dX11_inWaterOf_15 : decode cX11_inWaterOf 15 = .ok (.iload_n 1, 1) := by decide +kernel
theorem dX11_inWaterOf_16 : decode cX11_inWaterOf 16 = .ok (.aload_n 0, 1) := by decide +kernel
theorem dX11_inWaterOf_17 : decode cX11_inWaterOf 17 = .ok (.getfield 26, 3) := by decide +kernel
theorem dX11_inWaterOf_20 : decode cX11_inWaterOf 20 = .ok (.invokevirtual 102, 3) := by decide +kernel
theorem dX11_inWaterOf_23 : decode cX11_inWaterOf 23 = .ok (.ifCond .eq 26, 3) := by decide +kernel
theorem dX11_inWaterOf_26 : decode cX11_inWaterOf 26 = .ok (.aload_n 0, 1) := by decide +kernel
theorem dX11_inWaterOf_27 : decode cX11_inWaterOf 27 = .ok (.getfield 33, 3) := by decide +kernel
theorem dX11_inWaterOf_30 : decode cX11_inWaterOf 30 = .ok (.iload_n 3, 1) := by decide +kernel
theorem dX11_inWaterOf_31 : decode cX11_inWaterOf 31 = .ok (.iaload, 1) := by decide +kernel
theorem dX11_inWaterOf_32 : decode cX11_inWaterOf 32 = .ok (.aload_n 0, 1) := by decide +kernel
theorem dX11_inWaterOf_33 : decode cX11_inWaterOf 33 = .ok (.getfield 93, 3) := by decide +kernel
theorem dX11_inWaterOf_36 : decode cX11_inWaterOf 36 = .ok (.iload_n 3, 1) := by decide +kernel
theorem dX11_inWaterOf_37 : decode cX11_inWaterOf 37 = .ok (.iaload, 1) := by decide +kernel
theorem dX11_inWaterOf_38 : decode cX11_inWaterOf 38 = .ok (.iadd, 1) := by decide +kernel
theorem dX11_inWaterOf_39 : decode cX11_inWaterOf 39 = .ok (.aload_n 0, 1) := by decide +kernel
theorem dX11_inWaterOf_40 : decode cX11_inWaterOf 40 = .ok (.getfield 36, 3) := by decide +kernel
theorem dX11_inWaterOf_43 : decode cX11_inWaterOf 43 = .ok (.iload_n 3, 1) := by decide +kernel
theorem dX11_inWaterOf_44 : decode cX11_inWaterOf 44 = .ok (.iaload, 1) := by decide +kernel
theorem dX11_inWaterOf_45 : decode cX11_inWaterOf 45 = .ok (.iadd, 1) := by decide +kernel
theorem dX11_inWaterOf_46 : decode cX11_inWaterOf 46 = .ok (.goto 4, 3) := by decide +kernel
theorem dX11_inWaterOf_49 : decode cX11_inWaterOf 49 = .ok (.iconst 0, 1) := by decide +kernel
theorem dX11_inWaterOf_50 : decode cX11_inWaterOf 50 = .ok (.iadd, 1) := by decide +kernel
theorem dX11_inWaterOf_51 : decode cX11_inWaterOf 51 = .ok (.istore_n 2, 1) := by decide +kernel
theorem dX11_inWaterOf_52 : decode cX11_inWaterOf 52 = .ok (.iinc 3 1, 3) := by decide +kernel
theorem dX11_inWaterOf_55 : decode cX11_inWaterOf 55 = .ok (.goto (-51), 3) := by decide +kernel
theorem dX11_inWaterOf_58 : decode cX11_inWaterOf 58 = .ok (.iload_n 2, 1) := by decide +kernel
theorem dX11_inWaterOf_59 : decode cX11_inWaterOf 59 = .ok (.ireturn, 1) := by decide +kernel
theorem dX11_inWater_0 : decode cX11_inWater 0 = .ok (.aload_n 0, 1) := by decide +kernel
theorem dX11_inWater_1 : decode cX11_inWater 1 = .ok (.aload_n 0, 1) := by decide +kernel
theorem dX11_inWater_2 : decode cX11_inWater 2 = .ok (.getfield 99, 3) := by decide +kernel
theorem dX11_inWater_5 : decode cX11_inWater 5 = .ok (.invokevirtual 381, 3) := by decide +kernel
theorem dX11_inWater_8 : decode cX11_inWater 8 = .ok (.ireturn, 1) := by decide +kernel
theorem dX11_keepAll_0 : decode cX11_keepAll 0 = .ok (.iconst 0, 1) := by decide +kernel
theorem dX11_keepAll_1 : decode cX11_keepAll 1 = .ok (.istore_n 1, 1) := by decide +kernel
theorem dX11_keepAll_2 : decode cX11_keepAll 2 = .ok (.iload_n 1, 1) := by decide +kernel
theorem dX11_keepAll_3 : decode cX11_keepAll 3 = .ok (.bipush 6, 2) := by decide +kernel
theorem dX11_keepAll_5 : decode cX11_keepAll 5 = .ok (.if_icmp .ge 57, 3) := by decide +kernel
theorem dX11_keepAll_8 : decode cX11_keepAll 8 = .ok (.aload_n 0, 1) := by decide +kernel
theorem dX11_keepAll_9 : decode cX11_keepAll 9 = .ok (.getfield 312, 3) := by decide +kernel
theorem dX11_keepAll_12 : decode cX11_keepAll 12 = .ok (.iload_n 1, 1) := by decide +kernel
theorem dX11_keepAll_13 : decode cX11_keepAll 13 = .ok (.aload_n 0, 1) := by decide +kernel
theorem dX11_keepAll_14 : decode cX11_keepAll 14 = .ok (.getfield 33, 3) := by decide +kernel
theorem dX11_keepAll_17 : decode cX11_keepAll 17 = .ok (.iload_n 1, 1) := by decide +kernel
theorem dX11_keepAll_18 : decode cX11_keepAll 18 = .ok (.iaload, 1) := by decide +kernel
theorem dX11_keepAll_19 : decode cX11_keepAll 19 = .ok (.iastore, 1) := by decide +kernel
theorem dX11_keepAll_20 : decode cX11_keepAll 20 = .ok (.aload_n 0, 1) := by decide +kernel
theorem dX11_keepAll_21 : decode cX11_keepAll 21 = .ok (.getfield 315, 3) := by decide +kernel
theorem dX11_keepAll_24 : decode cX11_keepAll 24 = .ok (.iload_n 1, 1) := by decide +kernel
theorem dX11_keepAll_25 : decode cX11_keepAll 25 = .ok (.aload_n 0, 1) := by decide +kernel
theorem dX11_keepAll_26 : decode cX11_keepAll 26 = .ok (.getfield 93, 3) := by decide +kernel
theorem dX11_keepAll_29 : decode cX11_keepAll 29 = .ok (.iload_n 1, 1) := by decide +kernel
theorem dX11_keepAll_30 : decode cX11_keepAll 30 = .ok (.iaload, 1) := by decide +kernel
theorem dX11_keepAll_31 : decode cX11_keepAll 31 = .ok (.iastore, 1) := by decide +kernel
theorem dX11_keepAll_32 : decode cX11_keepAll 32 = .ok (.aload_n 0, 1) := by decide +kernel
theorem dX11_keepAll_33 : decode cX11_keepAll 33 = .ok (.getfield 318, 3) := by decide +kernel
theorem dX11_keepAll_36 : decode cX11_keepAll 36 = .ok (.iload_n 1, 1) := by decide +kernel
theorem dX11_keepAll_37 : decode cX11_keepAll 37 = .ok (.aload_n 0, 1) := by decide +kernel
theorem dX11_keepAll_38 : decode cX11_keepAll 38 = .ok (.getfield 36, 3) := by decide +kernel
theorem dX11_keepAll_41 : decode cX11_keepAll 41 = .ok (.iload_n 1, 1) := by decide +kernel
theorem dX11_keepAll_42 : decode cX11_keepAll 42 = .ok (.iaload, 1) := by decide +kernel
theorem dX11_keepAll_43 : decode cX11_keepAll 43 = .ok (.iastore, 1) := by decide +kernel
theorem dX11_keepAll_44 : decode cX11_keepAll 44 = .ok (.aload_n 0, 1) := by decide +kernel
theorem dX11_keepAll_45 : decode cX11_keepAll 45 = .ok (.getfield 321, 3) := by decide +kernel
theorem dX11_keepAll_48 : decode cX11_keepAll 48 = .ok (.iload_n 1, 1) := by decide +kernel
theorem dX11_keepAll_49 : decode cX11_keepAll 49 = .ok (.aload_n 0, 1) := by decide +kernel
theorem dX11_keepAll_50 : decode cX11_keepAll 50 = .ok (.getfield 96, 3) := by decide +kernel
theorem dX11_keepAll_53 : decode cX11_keepAll 53 = .ok (.iload_n 1, 1) := by decide +kernel
theorem dX11_keepAll_54 : decode cX11_keepAll 54 = .ok (.iaload, 1) := by decide +kernel
theorem dX11_keepAll_55 : decode cX11_keepAll 55 = .ok (.iastore, 1) := by decide +kernel
theorem dX11_keepAll_56 : decode cX11_keepAll 56 = .ok (.iinc 1 1, 3) := by decide +kernel
theorem dX11_keepAll_59 : decode cX11_keepAll 59 = .ok (.goto (-57), 3) := by decide +kernel
theorem dX11_keepAll_62 : decode cX11_keepAll 62 = .ok (.iconst 0, 1) := by decide +kernel
theorem dX11_keepAll_63 : decode cX11_keepAll 63 = .ok (.istore_n 1, 1) := by decide +kernel
theorem dX11_keepAll_64 : decode cX11_keepAll 64 = .ok (.iload_n 1, 1) := by decide +kernel
theorem dX11_keepAll_65 : decode cX11_keepAll 65 = .ok (.iconst 3, 1) := by decide +kernel
theorem dX11_keepAll_66 : decode cX11_keepAll 66 = .ok (.if_icmp .ge 33, 3) := by decide +kernel
theorem dX11_keepAll_69 : decode cX11_keepAll 69 = .ok (.aload_n 0, 1) := by decide +kernel
theorem dX11_keepAll_70 : decode cX11_keepAll 70 = .ok (.getfield 324, 3) := by decide +kernel
theorem dX11_keepAll_73 : decode cX11_keepAll 73 = .ok (.iload_n 1, 1) := by decide +kernel
theorem dX11_keepAll_74 : decode cX11_keepAll 74 = .ok (.aload_n 0, 1) := by decide +kernel
theorem dX11_keepAll_75 : decode cX11_keepAll 75 = .ok (.getfield 106, 3) := by decide +kernel
theorem dX11_keepAll_78 : decode cX11_keepAll 78 = .ok (.iload_n 1, 1) := by decide +kernel
theorem dX11_keepAll_79 : decode cX11_keepAll 79 = .ok (.iaload, 1) := by decide +kernel
theorem dX11_keepAll_80 : decode cX11_keepAll 80 = .ok (.iastore, 1) := by decide +kernel
theorem dX11_keepAll_81 : decode cX11_keepAll 81 = .ok (.aload_n 0, 1) := by decide +kernel
theorem dX11_keepAll_82 : decode cX11_keepAll 82 = .ok (.getfield 327, 3) := by decide +kernel
theorem dX11_keepAll_85 : decode cX11_keepAll 85 = .ok (.iload_n 1, 1) := by decide +kernel
theorem dX11_keepAll_86 : decode cX11_keepAll 86 = .ok (.aload_n 0, 1) := by decide +kernel
theorem dX11_keepAll_87 : decode cX11_keepAll 87 = .ok (.getfield 109, 3) := by decide +kernel
theorem dX11_keepAll_90 : decode cX11_keepAll 90 = .ok (.iload_n 1, 1) := by decide +kernel
theorem dX11_keepAll_91 : decode cX11_keepAll 91 = .ok (.iaload, 1) := by decide +kernel
theorem dX11_keepAll_92 : decode cX11_keepAll 92 = .ok (.iastore, 1) := by decide +kernel
theorem dX11_keepAll_93 : decode cX11_keepAll 93 = .ok (.iinc 1 1, 3) := by decide +kernel
theorem dX11_keepAll_96 : decode cX11_keepAll 96 = .ok (.goto (-32), 3) := by decide +kernel
theorem dX11_keepAll_99 : decode cX11_keepAll 99 = .ok (.iconst 0, 1) := by decide +kernel
theorem dX11_keepAll_100 : decode cX11_keepAll 100 = .ok (.istore_n 1, 1) := by decide +kernel
theorem dX11_keepAll_101 : decode cX11_keepAll 101 = .ok (.iload_n 1, 1) := by decide +kernel
theorem dX11_keepAll_102 : decode cX11_keepAll 102 = .ok (.iconst 4, 1) := by decide +kernel
theorem dX11_keepAll_103 : decode cX11_keepAll 103 = .ok (.if_icmp .ge 33, 3) := by decide +kernel
theorem dX11_keepAll_106 : decode cX11_keepAll 106 = .ok (.aload_n 0, 1) := by decide +kernel
theorem dX11_keepAll_107 : decode cX11_keepAll 107 = .ok (.getfield 330, 3) := by decide +kernel
theorem dX11_keepAll_110 : decode cX11_keepAll 110 = .ok (.iload_n 1, 1) := by decide +kernel
theorem dX11_keepAll_111 : decode cX11_keepAll 111 = .ok (.aload_n 0, 1) := by decide +kernel
theorem dX11_keepAll_112 : decode cX11_keepAll 112 = .ok (.getfield 125, 3) := by decide +kernel
theorem dX11_keepAll_115 : decode cX11_keepAll 115 = .ok (.iload_n 1, 1) := by decide +kernel
theorem dX11_keepAll_116 : decode cX11_keepAll 116 = .ok (.iaload, 1) := by decide +kernel
theorem dX11_keepAll_117 : decode cX11_keepAll 117 = .ok (.iastore, 1) := by decide +kernel
theorem dX11_keepAll_118 : decode cX11_keepAll 118 = .ok (.aload_n 0, 1) := by decide +kernel
theorem dX11_keepAll_119 : decode cX11_keepAll 119 = .ok (.getfield 333, 3) := by decide +kernel
theorem dX11_keepAll_122 : decode cX11_keepAll 122 = .ok (.iload_n 1, 1) := by decide +kernel
theorem dX11_keepAll_123 : decode cX11_keepAll 123 = .ok (.aload_n 0, 1) := by decide +kernel
theorem dX11_keepAll_124 : decode cX11_keepAll 124 = .ok (.getfield 128, 3) := by decide +kernel
theorem dX11_keepAll_127 : decode cX11_keepAll 127 = .ok (.iload_n 1, 1) := by decide +kernel
theorem dX11_keepAll_128 : decode cX11_keepAll 128 = .ok (.iaload, 1) := by decide +kernel
theorem dX11_keepAll_129 : decode cX11_keepAll 129 = .ok (.iastore, 1) := by decide +kernel
theorem dX11_keepAll_130 : decode cX11_keepAll 130 = .ok (.iinc 1 1, 3) := by decide +kernel
theorem dX11_keepAll_133 : decode cX11_keepAll 133 = .ok (.goto (-32), 3) := by decide +kernel
theorem dX11_keepAll_136 : decode cX11_keepAll 136 = .ok (.aload_n 0, 1) := by decide +kernel
theorem dX11_keepAll_137 : decode cX11_keepAll 137 = .ok (.aload_n 0, 1) := by decide +kernel
theorem dX11_keepAll_138 : decode cX11_keepAll 138 = .ok (.getfield 366, 3) := by decide +kernel
theorem dX11_keepAll_141 : decode cX11_keepAll 141 = .ok (.putfield 384, 3) := by decide +kernel
theorem dX11_keepAll_144 : decode cX11_keepAll 144 = .ok (.aload_n 0, 1) := by decide +kernel
theorem dX11_keepAll_145 : decode cX11_keepAll 145 = .ok (.aload_n 0, 1) := by decide +kernel
theorem dX11_keepAll_146 : decode cX11_keepAll 146 = .ok (.getfield 26, 3) := by decide +kernel
theorem dX11_keepAll_149 : decode cX11_keepAll 149 = .ok (.putfield 387, 3) := by decide +kernel
theorem dX11_keepAll_152 : decode cX11_keepAll 152 = .ok (.return_, 1) := by decide +kernel
theorem dX11_bringBack_0 : decode cX11_bringBack 0 = .ok (.iconst 0, 1) := by decide +kernel
theorem dX11_bringBack_1 : decode cX11_bringBack 1 = .ok (.istore_n 1, 1) := by decide +kernel
theorem dX11_bringBack_2 : decode cX11_bringBack 2 = .ok (.iload_n 1, 1) := by decide +kernel
theorem dX11_bringBack_3 : decode cX11_bringBack 3 = .ok (.bipush 6, 2) := by decide +kernel
theorem dX11_bringBack_5 : decode cX11_bringBack 5 = .ok (.if_icmp .ge 57, 3) := by decide +kernel
theorem dX11_bringBack_8 : decode cX11_bringBack 8 = .ok (.aload_n 0, 1) := by decide +kernel
theorem dX11_bringBack_9 : decode cX11_bringBack 9 = .ok (.getfield 33, 3) := by decide +kernel
theorem dX11_bringBack_12 : decode cX11_bringBack 12 = .ok (.iload_n 1, 1) := by decide +kernel
theorem dX11_bringBack_13 : decode cX11_bringBack 13 = .ok (.aload_n 0, 1) := by decide +kernel
theorem dX11_bringBack_14 : decode cX11_bringBack 14 = .ok (.getfield 312, 3) := by decide +kernel
theorem dX11_bringBack_17 : decode cX11_bringBack 17 = .ok (.iload_n 1, 1) := by decide +kernel
theorem dX11_bringBack_18 : decode cX11_bringBack 18 = .ok (.iaload, 1) := by decide +kernel
theorem dX11_bringBack_19 : decode cX11_bringBack 19 = .ok (.iastore, 1) := by decide +kernel
theorem dX11_bringBack_20 : decode cX11_bringBack 20 = .ok (.aload_n 0, 1) := by decide +kernel
theorem dX11_bringBack_21 : decode cX11_bringBack 21 = .ok (.getfield 93, 3) := by decide +kernel
theorem dX11_bringBack_24 : decode cX11_bringBack 24 = .ok (.iload_n 1, 1) := by decide +kernel
theorem dX11_bringBack_25 : decode cX11_bringBack 25 = .ok (.aload_n 0, 1) := by decide +kernel
theorem dX11_bringBack_26 : decode cX11_bringBack 26 = .ok (.getfield 315, 3) := by decide +kernel
theorem dX11_bringBack_29 : decode cX11_bringBack 29 = .ok (.iload_n 1, 1) := by decide +kernel
theorem dX11_bringBack_30 : decode cX11_bringBack 30 = .ok (.iaload, 1) := by decide +kernel
theorem dX11_bringBack_31 : decode cX11_bringBack 31 = .ok (.iastore, 1) := by decide +kernel
theorem dX11_bringBack_32 : decode cX11_bringBack 32 = .ok (.aload_n 0, 1) := by decide +kernel
theorem dX11_bringBack_33 : decode cX11_bringBack 33 = .ok (.getfield 36, 3) := by decide +kernel
theorem dX11_bringBack_36 : decode cX11_bringBack 36 = .ok (.iload_n 1, 1) := by decide +kernel
theorem dX11_bringBack_37 : decode cX11_bringBack 37 = .ok (.aload_n 0, 1) := by decide +kernel
theorem dX11_bringBack_38 : decode cX11_bringBack 38 = .ok (.getfield 318, 3) := by decide +kernel
theorem dX11_bringBack_41 : decode cX11_bringBack 41 = .ok (.iload_n 1, 1) := by decide +kernel
theorem dX11_bringBack_42 : decode cX11_bringBack 42 = .ok (.iaload, 1) := by decide +kernel
theorem dX11_bringBack_43 : decode cX11_bringBack 43 = .ok (.iastore, 1) := by decide +kernel
theorem dX11_bringBack_44 : decode cX11_bringBack 44 = .ok (.aload_n 0, 1) := by decide +kernel
theorem dX11_bringBack_45 : decode cX11_bringBack 45 = .ok (.getfield 96, 3) := by decide +kernel
theorem dX11_bringBack_48 : decode cX11_bringBack 48 = .ok (.iload_n 1, 1) := by decide +kernel
theorem dX11_bringBack_49 : decode cX11_bringBack 49 = .ok (.aload_n 0, 1) := by decide +kernel
theorem dX11_bringBack_50 : decode cX11_bringBack 50 = .ok (.getfield 321, 3) := by decide +kernel
theorem dX11_bringBack_53 : decode cX11_bringBack 53 = .ok (.iload_n 1, 1) := by decide +kernel
theorem dX11_bringBack_54 : decode cX11_bringBack 54 = .ok (.iaload, 1) := by decide +kernel
theorem dX11_bringBack_55 : decode cX11_bringBack 55 = .ok (.iastore, 1) := by decide +kernel
theorem dX11_bringBack_56 : decode cX11_bringBack 56 = .ok (.iinc 1 1, 3) := by decide +kernel
theorem dX11_bringBack_59 : decode cX11_bringBack 59 = .ok (.goto (-57), 3) := by decide +kernel
theorem dX11_bringBack_62 : decode cX11_bringBack 62 = .ok (.iconst 0, 1) := by decide +kernel
theorem dX11_bringBack_63 : decode cX11_bringBack 63 = .ok (.istore_n 1, 1) := by decide +kernel
theorem dX11_bringBack_64 : decode cX11_bringBack 64 = .ok (.iload_n 1, 1) := by decide +kernel
theorem dX11_bringBack_65 : decode cX11_bringBack 65 = .ok (.iconst 3, 1) := by decide +kernel
theorem dX11_bringBack_66 : decode cX11_bringBack 66 = .ok (.if_icmp .ge 33, 3) := by decide +kernel
theorem dX11_bringBack_69 : decode cX11_bringBack 69 = .ok (.aload_n 0, 1) := by decide +kernel
theorem dX11_bringBack_70 : decode cX11_bringBack 70 = .ok (.getfield 106, 3) := by decide +kernel
theorem dX11_bringBack_73 : decode cX11_bringBack 73 = .ok (.iload_n 1, 1) := by decide +kernel
theorem dX11_bringBack_74 : decode cX11_bringBack 74 = .ok (.aload_n 0, 1) := by decide +kernel
theorem dX11_bringBack_75 : decode cX11_bringBack 75 = .ok (.getfield 324, 3) := by decide +kernel
theorem dX11_bringBack_78 : decode cX11_bringBack 78 = .ok (.iload_n 1, 1) := by decide +kernel
theorem dX11_bringBack_79 : decode cX11_bringBack 79 = .ok (.iaload, 1) := by decide +kernel
theorem dX11_bringBack_80 : decode cX11_bringBack 80 = .ok (.iastore, 1) := by decide +kernel
theorem dX11_bringBack_81 : decode cX11_bringBack 81 = .ok (.aload_n 0, 1) := by decide +kernel
theorem dX11_bringBack_82 : decode cX11_bringBack 82 = .ok (.getfield 109, 3) := by decide +kernel
theorem dX11_bringBack_85 : decode cX11_bringBack 85 = .ok (.iload_n 1, 1) := by decide +kernel
theorem dX11_bringBack_86 : decode cX11_bringBack 86 = .ok (.aload_n 0, 1) := by decide +kernel
theorem dX11_bringBack_87 : decode cX11_bringBack 87 = .ok (.getfield 327, 3) := by decide +kernel
theorem dX11_bringBack_90 : decode cX11_bringBack 90 = .ok (.iload_n 1, 1) := by decide +kernel
theorem dX11_bringBack_91 : decode cX11_bringBack 91 = .ok (.iaload, 1) := by decide +kernel
theorem dX11_bringBack_92 : decode cX11_bringBack 92 = .ok (.iastore, 1) := by decide +kernel
theorem dX11_bringBack_93 : decode cX11_bringBack 93 = .ok (.iinc 1 1, 3) := by decide +kernel
theorem dX11_bringBack_96 : decode cX11_bringBack 96 = .ok (.goto (-32), 3) := by decide +kernel
theorem dX11_bringBack_99 : decode cX11_bringBack 99 = .ok (.iconst 0, 1) := by decide +kernel
theorem dX11_bringBack_100 : decode cX11_bringBack 100 = .ok (.istore_n 1, 1) := by decide +kernel
theorem dX11_bringBack_101 : decode cX11_bringBack 101 = .ok (.iload_n 1, 1) := by decide +kernel
theorem dX11_bringBack_102 : decode cX11_bringBack 102 = .ok (.iconst 4, 1) := by decide +kernel
theorem dX11_bringBack_103 : decode cX11_bringBack 103 = .ok (.if_icmp .ge 33, 3) := by decide +kernel
theorem dX11_bringBack_106 : decode cX11_bringBack 106 = .ok (.aload_n 0, 1) := by decide +kernel
theorem dX11_bringBack_107 : decode cX11_bringBack 107 = .ok (.getfield 125, 3) := by decide +kernel
theorem dX11_bringBack_110 : decode cX11_bringBack 110 = .ok (.iload_n 1, 1) := by decide +kernel
theorem dX11_bringBack_111 : decode cX11_bringBack 111 = .ok (.aload_n 0, 1) := by decide +kernel
theorem dX11_bringBack_112 : decode cX11_bringBack 112 = .ok (.getfield 330, 3) := by decide +kernel
theorem dX11_bringBack_115 : decode cX11_bringBack 115 = .ok (.iload_n 1, 1) := by decide +kernel
theorem dX11_bringBack_116 : decode cX11_bringBack 116 = .ok (.iaload, 1) := by decide +kernel
theorem dX11_bringBack_117 : decode cX11_bringBack 117 = .ok (.iastore, 1) := by decide +kernel
theorem dX11_bringBack_118 : decode cX11_bringBack 118 = .ok (.aload_n 0, 1) := by decide +kernel
theorem dX11_bringBack_119 : decode cX11_bringBack 119 = .ok (.getfield 128, 3) := by decide +kernel
theorem dX11_bringBack_122 : decode cX11_bringBack 122 = .ok (.iload_n 1, 1) := by decide +kernel
theorem dX11_bringBack_123 : decode cX11_bringBack 123 = .ok (.aload_n 0, 1) := by decide +kernel
theorem dX11_bringBack_124 : decode cX11_bringBack 124 = .ok (.getfield 333, 3) := by decide +kernel
theorem dX11_bringBack_127 : decode cX11_bringBack 127 = .ok (.iload_n 1, 1) := by decide +kernel
theorem dX11_bringBack_128 : decode cX11_bringBack 128 = .ok (.iaload, 1) := by decide +kernel
theorem dX11_bringBack_129 : decode cX11_bringBack 129 = .ok (.iastore, 1) := by decide +kernel
theorem dX11_bringBack_130 : decode cX11_bringBack 130 = .ok (.iinc 1 1, 3) := by decide +kernel
theorem dX11_bringBack_133 : decode cX11_bringBack 133 = .ok (.goto (-32), 3) := by decide +kernel
theorem dX11_bringBack_136 : decode cX11_bringBack 136 = .ok (.aload_n 0, 1) := by decide +kernel
theorem dX11_bringBack_137 : decode cX11_bringBack 137 = .ok (.aload_n 0, 1) := by decide +kernel
theorem dX11_bringBack_138 : decode cX11_bringBack 138 = .ok (.getfield 384, 3) := by decide +kernel
theorem dX11_bringBack_141 : decode cX11_bringBack 141 = .ok (.putfield 366, 3) := by decide +kernel
theorem dX11_bringBack_144 : decode cX11_bringBack 144 = .ok (.aload_n 0, 1) := by decide +kernel
theorem dX11_bringBack_145 : decode cX11_bringBack 145 = .ok (.aload_n 0, 1) := by decide +kernel
theorem dX11_bringBack_146 : decode cX11_bringBack 146 = .ok (.getfield 387, 3) := by decide +kernel
theorem dX11_bringBack_149 : decode cX11_bringBack 149 = .ok (.putfield 26, 3) := by decide +kernel
theorem dX11_bringBack_152 : decode cX11_bringBack 152 = .ok (.return_, 1) := by decide +kernel
theorem dX11_played_0 : decode cX11_played 0 = .ok (.aload_n 0, 1) := by decide +kernel
theorem dX11_played_1 : decode cX11_played 1 = .ok (.invokevirtual 390, 3) := by decide +kernel
theorem dX11_played_4 : decode cX11_played 4 = .ok (.aload_n 0, 1) := by decide +kernel
theorem dX11_played_5 : decode cX11_played 5 = .ok (.getfield 26, 3) := by decide +kernel
theorem dX11_played_8 : decode cX11_played 8 = .ok (.aload_n 0, 1) := by decide +kernel
theorem dX11_played_9 : decode cX11_played 9 = .ok (.getfield 136, 3) := by decide +kernel
theorem dX11_played_12 : decode cX11_played 12 = .ok (.if_icmp .ge 84, 3) := by decide +kernel
theorem dX11_played_15 : decode cX11_played 15 = .ok (.iconst 0, 1) := by decide +kernel
theorem dX11_played_16 : decode cX11_played 16 = .ok (.istore_n 2, 1) := by decide +kernel
theorem dX11_played_17 : decode cX11_played 17 = .ok (.iload_n 2, 1) := by decide +kernel
theorem dX11_played_18 : decode cX11_played 18 = .ok (.aload_n 0, 1) := by decide +kernel
theorem dX11_played_19 : decode cX11_played 19 = .ok (.getfield 1, 3) := by decide +kernel
theorem dX11_played_22 : decode cX11_played 22 = .ok (.if_icmp .ge 66, 3) := by decide +kernel
theorem dX11_played_25 : decode cX11_played 25 = .ok (.aload_n 0, 1) := by decide +kernel
theorem dX11_played_26 : decode cX11_played 26 = .ok (.getfield 96, 3) := by decide +kernel
theorem dX11_played_29 : decode cX11_played 29 = .ok (.iload_n 2, 1) := by decide +kernel
theorem dX11_played_30 : decode cX11_played 30 = .ok (.aload_n 0, 1) := by decide +kernel
theorem dX11_played_31 : decode cX11_played 31 = .ok (.getfield 96, 3) := by decide +kernel
theorem dX11_played_34 : decode cX11_played 34 = .ok (.iload_n 2, 1) := by decide +kernel
theorem dX11_played_35 : decode cX11_played 35 = .ok (.iaload, 1) := by decide +kernel
theorem dX11_played_36 : decode cX11_played 36 = .ok (.iconst (-1), 1) := by decide +kernel
theorem dX11_played_37 : decode cX11_played 37 = .ok (.if_icmp .ne 38, 3) := by decide +kernel
theorem dX11_played_40 : decode cX11_played 40 = .ok (.aload_n 0, 1) := by decide +kernel
theorem dX11_played_41 : decode cX11_played 41 = .ok (.getfield 336, 3) := by decide +kernel
theorem dX11_played_44 : decode cX11_played 44 = .ok (.iload_n 2, 1) := by decide +kernel
theorem dX11_played_45 : decode cX11_played 45 = .ok (.iaload, 1) := by decide +kernel
theorem dX11_played_46 : decode cX11_played 46 = .ok (.iconst (-1), 1) := by decide +kernel
theorem dX11_played_47 : decode cX11_played 47 = .ok (.if_icmp .eq 28, 3) := by decide +kernel
theorem dX11_played_50 : decode cX11_played 50 = .ok (.aload_n 0, 1) := by decide +kernel
theorem dX11_played_51 : decode cX11_played 51 = .ok (.getfield 387, 3) := by decide +kernel
theorem dX11_played_54 : decode cX11_played 54 = .ok (.aload_n 0, 1) := by decide +kernel
theorem dX11_played_55 : decode cX11_played 55 = .ok (.getfield 336, 3) := by decide +kernel
theorem dX11_played_58 : decode cX11_played 58 = .ok (.iload_n 2, 1) := by decide +kernel
theorem dX11_played_59 : decode cX11_played 59 = .ok (.iaload, 1) := by decide +kernel
theorem dX11_played_60 : decode cX11_played 60 = .ok (.iadd, 1) := by decide +kernel
theorem dX11_played_61 : decode cX11_played 61 = .ok (.aload_n 0, 1) := by decide +kernel
theorem dX11_played_62 : decode cX11_played 62 = .ok (.getfield 26, 3) := by decide +kernel
theorem dX11_played_65 : decode cX11_played 65 = .ok (.if_icmp .ne 10, 3) := by decide +kernel
theorem dX11_played_68 : decode cX11_played 68 = .ok (.aload_n 0, 1) := by decide +kernel
theorem dX11_played_69 : decode cX11_played 69 = .ok (.getfield 26, 3) := by decide +kernel
theorem dX11_played_72 : decode cX11_played 72 = .ok (.goto 9, 3) := by decide +kernel
theorem dX11_played_75 : decode cX11_played 75 = .ok (.aload_n 0, 1) := by decide +kernel
theorem dX11_played_76 : decode cX11_played 76 = .ok (.getfield 96, 3) := by decide +kernel
theorem dX11_played_79 : decode cX11_played 79 = .ok (.iload_n 2, 1) := by decide +kernel
theorem dX11_played_80 : decode cX11_played 80 = .ok (.iaload, 1) := by decide +kernel
theorem dX11_played_81 : decode cX11_played 81 = .ok (.iastore, 1) := by decide +kernel
theorem dX11_played_82 : decode cX11_played 82 = .ok (.iinc 2 1, 3) := by decide +kernel
theorem dX11_played_85 : decode cX11_played 85 = .ok (.goto (-68), 3) := by decide +kernel
theorem dX11_played_88 : decode cX11_played 88 = .ok (.aload_n 0, 1) := by decide +kernel
theorem dX11_played_89 : decode cX11_played 89 = .ok (.iload_n 1, 1) := by decide +kernel
theorem dX11_played_90 : decode cX11_played 90 = .ok (.invokevirtual 378, 3) := by decide +kernel
theorem dX11_played_93 : decode cX11_played 93 = .ok (.goto (-89), 3) := by decide +kernel
theorem dX11_played_96 : decode cX11_played 96 = .ok (.aload_n 0, 1) := by decide +kernel
theorem dX11_played_97 : decode cX11_played 97 = .ok (.iload_n 1, 1) := by decide +kernel
theorem dX11_played_98 : decode cX11_played 98 = .ok (.invokevirtual 381, 3) := by decide +kernel
theorem dX11_played_101 : decode cX11_played 101 = .ok (.istore_n 2, 1) := by decide +kernel
theorem dX11_played_102 : decode cX11_played 102 = .ok (.aload_n 0, 1) := by decide +kernel
theorem dX11_played_103 : decode cX11_played 103 = .ok (.invokevirtual 393, 3) := by decide +kernel
theorem dX11_played_106 : decode cX11_played 106 = .ok (.iload_n 2, 1) := by decide +kernel
theorem dX11_played_107 : decode cX11_played 107 = .ok (.ireturn, 1) := by decide +kernel
theorem dX11_takeCalls_0 : decode cX11_takeCalls 0 = .ok (.lload_n 1, 1) := by decide +kernel
theorem dX11_takeCalls_1 : decode cX11_takeCalls 1 = .ok (.lstore_n 3, 1) := by decide +kernel
theorem dX11_takeCalls_2 : decode cX11_takeCalls 2 = .ok (.lload_n 1, 1) := by decide +kernel
theorem dX11_takeCalls_3 : decode cX11_takeCalls 3 = .ok (.lconst 0, 1) := by decide +kernel
theorem dX11_takeCalls_4 : decode cX11_takeCalls 4 = .ok (.lcmp, 1) := by decide +kernel
theorem dX11_takeCalls_5 : decode cX11_takeCalls 5 = .ok (.ifCond .lt 7, 3) := by decide +kernel
theorem dX11_takeCalls_8 : decode cX11_takeCalls 8 = .ok (.iconst 1, 1) := by decide +kernel
theorem dX11_takeCalls_9 : decode cX11_takeCalls 9 = .ok (.goto 4, 3) := by decide +kernel
theorem dX11_takeCalls_12 : decode cX11_takeCalls 12 = .ok (.iconst 0, 1) := by decide +kernel
theorem dX11_takeCalls_13 : decode cX11_takeCalls 13 = .ok (.istore 5, 2) := by decide +kernel
theorem dX11_takeCalls_15 : decode cX11_takeCalls 15 = .ok (.iconst 0, 1) := by decide +kernel
theorem dX11_takeCalls_16 : decode cX11_takeCalls 16 = .ok (.istore 6, 2) := by decide +kernel
theorem dX11_takeCalls_18 : decode cX11_takeCalls 18 = .ok (.iload 6, 2) := by decide +kernel
theorem dX11_takeCalls_20 : decode cX11_takeCalls 20 = .ok (.aload_n 0, 1) := by decide +kernel
theorem dX11_takeCalls_21 : decode cX11_takeCalls 21 = .ok (.getfield 1, 3) := by decide +kernel
theorem dX11_takeCalls_24 : decode cX11_takeCalls 24 = .ok (.if_icmp .ge 87, 3) := by decide +kernel
theorem dX11_takeCalls_27 : decode cX11_takeCalls 27 = .ok (.lload_n 3, 1) := by decide +kernel
theorem dX11_takeCalls_28 : decode cX11_takeCalls 28 = .ok (.ldc2_w 396, 3) := by decide +kernel
theorem dX11_takeCalls_31 : decode cX11_takeCalls 31 = .ok (.lrem, 1) := by decide +kernel
theorem dX11_takeCalls_32 : decode cX11_takeCalls 32 = .ok (.l2i, 1) := by decide +kernel
theorem dX11_takeCalls_33 : decode cX11_takeCalls 33 = .ok (.istore 7, 2) := by decide +kernel
theorem dX11_takeCalls_35 : decode cX11_takeCalls 35 = .ok (.lload_n 3, 1) := by decide +kernel
theorem dX11_takeCalls_36 : decode cX11_takeCalls 36 = .ok (.ldc2_w 396, 3) := by decide +kernel
theorem dX11_takeCalls_39 : decode cX11_takeCalls 39 = .ok (.ldiv, 1) := by decide +kernel
theorem dX11_takeCalls_40 : decode cX11_takeCalls 40 = .ok (.lstore_n 3, 1) := by decide +kernel
theorem dX11_takeCalls_41 : decode cX11_takeCalls 41 = .ok (.aload_n 0, 1) := by decide +kernel
theorem dX11_takeCalls_42 : decode cX11_takeCalls 42 = .ok (.getfield 336, 3) := by decide +kernel
theorem dX11_takeCalls_45 : decode cX11_takeCalls 45 = .ok (.iload 6, 2) := by decide +kernel
theorem dX11_takeCalls_47 : decode cX11_takeCalls 47 = .ok (.iload 7, 2) := by decide +kernel
theorem dX11_takeCalls_49 : decode cX11_takeCalls 49 = .ok (.bipush 99, 2) := by decide +kernel
theorem dX11_takeCalls_51 : decode cX11_takeCalls 51 = .ok (.if_icmp .ne 7, 3) := by decide +kernel
theorem dX11_takeCalls_54 : decode cX11_takeCalls 54 = .ok (.iconst (-1), 1) := by decide +kernel
theorem dX11_takeCalls_55 : decode cX11_takeCalls 55 = .ok (.goto 5, 3) := by decide +kernel
theorem dX11_takeCalls_58 : decode cX11_takeCalls 58 = .ok (.iload 7, 2) := by decide +kernel
theorem dX11_takeCalls_60 : decode cX11_takeCalls 60 = .ok (.iastore, 1) := by decide +kernel
theorem dX11_takeCalls_61 : decode cX11_takeCalls 61 = .ok (.iload 5, 2) := by decide +kernel
theorem dX11_takeCalls_63 : decode cX11_takeCalls 63 = .ok (.ifCond .eq 39, 3) := by decide +kernel
theorem dX11_takeCalls_66 : decode cX11_takeCalls 66 = .ok (.aload_n 0, 1) := by decide +kernel
theorem dX11_takeCalls_67 : decode cX11_takeCalls 67 = .ok (.getfield 96, 3) := by decide +kernel
theorem dX11_takeCalls_70 : decode cX11_takeCalls 70 = .ok (.iload 6, 2) := by decide +kernel
theorem dX11_takeCalls_72 : decode cX11_takeCalls 72 = .ok (.iaload, 1) := by decide +kernel
theorem dX11_takeCalls_73 : decode cX11_takeCalls 73 = .ok (.iconst (-1), 1) := by decide +kernel
theorem dX11_takeCalls_74 : decode cX11_takeCalls 74 = .ok (.if_icmp .ne 24, 3) := by decide +kernel
theorem dX11_takeCalls_77 : decode cX11_takeCalls 77 = .ok (.iload 7, 2) := by decide +kernel
theorem dX11_takeCalls_79 : decode cX11_takeCalls 79 = .ok (.bipush 99, 2) := by decide +kernel
theorem dX11_takeCalls_81 : decode cX11_takeCalls 81 = .ok (.if_icmp .eq 17, 3) := by decide +kernel
theorem dX11_takeCalls_84 : decode cX11_takeCalls 84 = .ok (.aload_n 0, 1) := by decide +kernel
theorem dX11_takeCalls_85 : decode cX11_takeCalls 85 = .ok (.getfield 26, 3) := by decide +kernel
theorem dX11_takeCalls_88 : decode cX11_takeCalls 88 = .ok (.iload 7, 2) := by decide +kernel
theorem dX11_takeCalls_90 : decode cX11_takeCalls 90 = .ok (.iadd, 1) := by decide +kernel
theorem dX11_takeCalls_91 : decode cX11_takeCalls 91 = .ok (.aload_n 0, 1) := by decide +kernel
theorem dX11_takeCalls_92 : decode cX11_takeCalls 92 = .ok (.getfield 136, 3) := by decide +kernel
theorem dX11_takeCalls_95 : decode cX11_takeCalls 95 = .ok (.if_icmp .gt 7, 3) := by decide +kernel
theorem dX11_takeCalls_98 : decode cX11_takeCalls 98 = .ok (.iconst 1, 1) := by decide +kernel
theorem dX11_takeCalls_99 : decode cX11_takeCalls 99 = .ok (.goto 4, 3) := by decide +kernel
theorem dX11_takeCalls_102 : decode cX11_takeCalls 102 = .ok (.iconst 0, 1) := by decide +kernel
theorem dX11_takeCalls_103 : decode cX11_takeCalls 103 = .ok (.istore 5, 2) := by decide +kernel
theorem dX11_takeCalls_105 : decode cX11_takeCalls 105 = .ok (.iinc 6 1, 3) := by decide +kernel
theorem dX11_takeCalls_108 : decode cX11_takeCalls 108 = .ok (.goto (-90), 3) := by decide +kernel
theorem dX11_takeCalls_111 : decode cX11_takeCalls 111 = .ok (.iload 5, 2) := by decide +kernel
theorem dX11_takeCalls_113 : decode cX11_takeCalls 113 = .ok (.ifCond .eq 13, 3) := by decide +kernel
theorem dX11_takeCalls_116 : decode cX11_takeCalls 116 = .ok (.lload_n 3, 1) := by decide +kernel
theorem dX11_takeCalls_117 : decode cX11_takeCalls 117 = .ok (.lconst 0, 1) := by decide +kernel
theorem dX11_takeCalls_118 : decode cX11_takeCalls 118 = .ok (.lcmp, 1) := by decide +kernel
theorem dX11_takeCalls_119 : decode cX11_takeCalls 119 = .ok (.ifCond .ne 7, 3) := by decide +kernel
theorem dX11_takeCalls_122 : decode cX11_takeCalls 122 = .ok (.iconst 1, 1) := by decide +kernel
theorem dX11_takeCalls_123 : decode cX11_takeCalls 123 = .ok (.goto 4, 3) := by decide +kernel
theorem dX11_takeCalls_126 : decode cX11_takeCalls 126 = .ok (.iconst 0, 1) := by decide +kernel
theorem dX11_takeCalls_127 : decode cX11_takeCalls 127 = .ok (.ireturn, 1) := by decide +kernel
theorem dX11_foresee_0 : decode cX11_foresee 0 = .ok (.iload_n 1, 1) := by decide +kernel
theorem dX11_foresee_1 : decode cX11_foresee 1 = .ok (.invokestatic 139, 3) := by decide +kernel
theorem dX11_foresee_4 : decode cX11_foresee 4 = .ok (.ifCond .eq 20, 3) := by decide +kernel
theorem dX11_foresee_7 : decode cX11_foresee 7 = .ok (.aload_n 0, 1) := by decide +kernel
theorem dX11_foresee_8 : decode cX11_foresee 8 = .ok (.lload_n 2, 1) := by decide +kernel
theorem dX11_foresee_9 : decode cX11_foresee 9 = .ok (.invokevirtual 398, 3) := by decide +kernel
theorem dX11_foresee_12 : decode cX11_foresee 12 = .ok (.ifCond .eq 12, 3) := by decide +kernel
theorem dX11_foresee_15 : decode cX11_foresee 15 = .ok (.aload_n 0, 1) := by decide +kernel
theorem dX11_foresee_16 : decode cX11_foresee 16 = .ok (.iload_n 1, 1) := by decide +kernel
theorem dX11_foresee_17 : decode cX11_foresee 17 = .ok (.invokevirtual 402, 3) := by decide +kernel
theorem dX11_foresee_20 : decode cX11_foresee 20 = .ok (.i2l, 1) := by decide +kernel
theorem dX11_foresee_21 : decode cX11_foresee 21 = .ok (.goto 6, 3) := by decide +kernel
theorem dX11_foresee_24 : decode cX11_foresee 24 = .ok (.ldc2_w 302, 3) := by decide +kernel
theorem dX11_foresee_27 : decode cX11_foresee 27 = .ok (.lreturn, 1) := by decide +kernel
theorem dX11_worst_0 : decode cX11_worst 0 = .ok (.iconst 0, 1) := by decide +kernel
theorem dX11_worst_1 : decode cX11_worst 1 = .ok (.istore_n 1, 1) := by decide +kernel
theorem dX11_worst_2 : decode cX11_worst 2 = .ok (.iconst 0, 1) := by decide +kernel
theorem dX11_worst_3 : decode cX11_worst 3 = .ok (.istore_n 2, 1) := by decide +kernel
theorem dX11_worst_4 : decode cX11_worst 4 = .ok (.iload_n 2, 1) := by decide +kernel
theorem dX11_worst_5 : decode cX11_worst 5 = .ok (.iconst 3, 1) := by decide +kernel
theorem dX11_worst_6 : decode cX11_worst 6 = .ok (.if_icmp .ge 33, 3) := by decide +kernel
theorem dX11_worst_9 : decode cX11_worst 9 = .ok (.aload_n 0, 1) := by decide +kernel
theorem dX11_worst_10 : decode cX11_worst 10 = .ok (.getfield 142, 3) := by decide +kernel
theorem dX11_worst_13 : decode cX11_worst 13 = .ok (.iload_n 2, 1) := by decide +kernel
theorem dX11_worst_14 : decode cX11_worst 14 = .ok (.iaload, 1) := by decide +kernel
theorem dX11_worst_15 : decode cX11_worst 15 = .ok (.iconst 1, 1) := by decide +kernel
theorem dX11_worst_16 : decode cX11_worst 16 = .ok (.if_icmp .ne 15, 3) := by decide +kernel
theorem dX11_worst_19 : decode cX11_worst 19 = .ok (.iload_n 1, 1) := by decide +kernel
theorem dX11_worst_20 : decode cX11_worst 20 = .ok (.aload_n 0, 1) := by decide +kernel
theorem dX11_worst_21 : decode cX11_worst 21 = .ok (.iload_n 2, 1) := by decide +kernel
theorem dX11_worst_22 : decode cX11_worst 22 = .ok (.invokevirtual 402, 3) := by decide +kernel
theorem dX11_worst_25 : decode cX11_worst 25 = .ok (.invokestatic 363, 3) := by decide +kernel
theorem dX11_worst_28 : decode cX11_worst 28 = .ok (.goto 4, 3) := by decide +kernel
theorem dX11_worst_31 : decode cX11_worst 31 = .ok (.iload_n 1, 1) := by decide +kernel
theorem dX11_worst_32 : decode cX11_worst 32 = .ok (.istore_n 1, 1) := by decide +kernel
theorem dX11_worst_33 : decode cX11_worst 33 = .ok (.iinc 2 1, 3) := by decide +kernel
theorem dX11_worst_36 : decode cX11_worst 36 = .ok (.goto (-32), 3) := by decide +kernel
theorem dX11_worst_39 : decode cX11_worst 39 = .ok (.iload_n 1, 1) := by decide +kernel
theorem dX11_worst_40 : decode cX11_worst 40 = .ok (.ireturn, 1) := by decide +kernel
theorem dX11_mayAsk_0 : decode cX11_mayAsk 0 = .ok (.iload_n 1, 1) := by decide +kernel
theorem dX11_mayAsk_1 : decode cX11_mayAsk 1 = .ok (.i2l, 1) := by decide +kernel
theorem dX11_mayAsk_2 : decode cX11_mayAsk 2 = .ok (.lconst 0, 1) := by decide +kernel
theorem dX11_mayAsk_3 : decode cX11_mayAsk 3 = .ok (.iconst 1, 1) := by decide +kernel
theorem dX11_mayAsk_4 : decode cX11_mayAsk 4 = .ok (.aload_n 0, 1) := by decide +kernel
theorem dX11_mayAsk_5 : decode cX11_mayAsk 5 = .ok (.getfield 1, 3) := by decide +kernel
theorem dX11_mayAsk_8 : decode cX11_mayAsk 8 = .ok (.ishl, 1) := by decide +kernel
theorem dX11_mayAsk_9 : decode cX11_mayAsk 9 = .ok (.iconst 1, 1) := by decide +kernel
theorem dX11_mayAsk_10 : decode cX11_mayAsk 10 = .ok (.isub, 1) := by decide +kernel
theorem dX11_mayAsk_11 : decode cX11_mayAsk 11 = .ok (.i2l, 1) := by decide +kernel
theorem dX11_mayAsk_12 : decode cX11_mayAsk 12 = .ok (.invokestatic 18, 3) := by decide +kernel
theorem dX11_mayAsk_15 : decode cX11_mayAsk 15 = .ok (.ifCond .ne 5, 3) := by decide +kernel
theorem dX11_mayAsk_18 : decode cX11_mayAsk 18 = .ok (.iconst 0, 1) := by decide +kernel
theorem dX11_mayAsk_19 : decode cX11_mayAsk 19 = .ok (.ireturn, 1) := by decide +kernel
theorem dX11_mayAsk_20 : decode cX11_mayAsk 20 = .ok (.iconst 0, 1) := by decide +kernel
theorem dX11_mayAsk_21 : decode cX11_mayAsk 21 = .ok (.istore_n 2, 1) := by decide +kernel
theorem dX11_mayAsk_22 : decode cX11_mayAsk 22 = .ok (.iconst 1, 1) := by decide +kernel
theorem dX11_mayAsk_23 : decode cX11_mayAsk 23 = .ok (.istore_n 3, 1) := by decide +kernel
theorem dX11_mayAsk_24 : decode cX11_mayAsk 24 = .ok (.iconst 0, 1) := by decide +kernel
theorem dX11_mayAsk_25 : decode cX11_mayAsk 25 = .ok (.istore 4, 2) := by decide +kernel
theorem dX11_mayAsk_27 : decode cX11_mayAsk 27 = .ok (.iload 4, 2) := by decide +kernel
theorem dX11_mayAsk_29 : decode cX11_mayAsk 29 = .ok (.aload_n 0, 1) := by decide +kernel
theorem dX11_mayAsk_30 : decode cX11_mayAsk 30 = .ok (.getfield 1, 3) := by decide +kernel
theorem dX11_mayAsk_33 : decode cX11_mayAsk 33 = .ok (.if_icmp .ge 65, 3) := by decide +kernel
theorem dX11_mayAsk_36 : decode cX11_mayAsk 36 = .ok (.iload_n 1, 1) := by decide +kernel
theorem dX11_mayAsk_37 : decode cX11_mayAsk 37 = .ok (.iload 4, 2) := by decide +kernel
theorem dX11_mayAsk_39 : decode cX11_mayAsk 39 = .ok (.ishr, 1) := by decide +kernel
theorem dX11_mayAsk_40 : decode cX11_mayAsk 40 = .ok (.iconst 1, 1) := by decide +kernel
theorem dX11_mayAsk_41 : decode cX11_mayAsk 41 = .ok (.iand, 1) := by decide +kernel
theorem dX11_mayAsk_42 : decode cX11_mayAsk 42 = .ok (.iconst 1, 1) := by decide +kernel
theorem dX11_mayAsk_43 : decode cX11_mayAsk 43 = .ok (.if_icmp .ne 7, 3) := by decide +kernel
theorem dX11_mayAsk_46 : decode cX11_mayAsk 46 = .ok (.iconst 1, 1) := by decide +kernel
theorem dX11_mayAsk_47 : decode cX11_mayAsk 47 = .ok (.goto 4, 3) := by decide +kernel
theorem dX11_mayAsk_50 : decode cX11_mayAsk 50 = .ok (.iconst 0, 1) := by decide +kernel
theorem dX11_mayAsk_51 : decode cX11_mayAsk 51 = .ok (.istore 5, 2) := by decide +kernel
theorem dX11_mayAsk_53 : decode cX11_mayAsk 53 = .ok (.iload_n 2, 1) := by decide +kernel
theorem dX11_mayAsk_54 : decode cX11_mayAsk 54 = .ok (.iload 5, 2) := by decide +kernel
theorem dX11_mayAsk_56 : decode cX11_mayAsk 56 = .ok (.ifCond .eq 7, 3) := by decide +kernel
theorem dX11_mayAsk_59 : decode cX11_mayAsk 59 = .ok (.iconst 1, 1) := by decide +kernel
theorem dX11_mayAsk_60 : decode cX11_mayAsk 60 = .ok (.goto 4, 3) := by decide +kernel
theorem dX11_mayAsk_63 : decode cX11_mayAsk 63 = .ok (.iconst 0, 1) := by decide +kernel
theorem dX11_mayAsk_64 : decode cX11_mayAsk 64 = .ok (.iadd, 1) := by decide +kernel
theorem dX11_mayAsk_65 : decode cX11_mayAsk 65 = .ok (.istore_n 2, 1) := by decide +kernel
theorem dX11_mayAsk_66 : decode cX11_mayAsk 66 = .ok (.iload_n 3, 1) := by decide +kernel
theorem dX11_mayAsk_67 : decode cX11_mayAsk 67 = .ok (.ifCond .eq 23, 3) := by decide +kernel
theorem dX11_mayAsk_70 : decode cX11_mayAsk 70 = .ok (.iload 5, 2) := by decide +kernel
theorem dX11_mayAsk_72 : decode cX11_mayAsk 72 = .ok (.ifCond .eq 14, 3) := by decide +kernel
theorem dX11_mayAsk_75 : decode cX11_mayAsk 75 = .ok (.aload_n 0, 1) := by decide +kernel
theorem dX11_mayAsk_76 : decode cX11_mayAsk 76 = .ok (.getfield 96, 3) := by decide +kernel
theorem dX11_mayAsk_79 : decode cX11_mayAsk 79 = .ok (.iload 4, 2) := by decide +kernel
theorem dX11_mayAsk_81 : decode cX11_mayAsk 81 = .ok (.iaload, 1) := by decide +kernel
theorem dX11_mayAsk_82 : decode cX11_mayAsk 82 = .ok (.iconst (-1), 1) := by decide +kernel
theorem dX11_mayAsk_83 : decode cX11_mayAsk 83 = .ok (.if_icmp .ne 7, 3) := by decide +kernel
theorem dX11_mayAsk_86 : decode cX11_mayAsk 86 = .ok (.iconst 1, 1) := by decide +kernel
theorem dX11_mayAsk_87 : decode cX11_mayAsk 87 = .ok (.goto 4, 3) := by decide +kernel
theorem dX11_mayAsk_90 : decode cX11_mayAsk 90 = .ok (.iconst 0, 1) := by decide +kernel
theorem dX11_mayAsk_91 : decode cX11_mayAsk 91 = .ok (.istore_n 3, 1) := by decide +kernel
theorem dX11_mayAsk_92 : decode cX11_mayAsk 92 = .ok (.iinc 4 1, 3) := by decide +kernel
theorem dX11_mayAsk_95 : decode cX11_mayAsk 95 = .ok (.goto (-68), 3) := by decide +kernel
theorem dX11_mayAsk_98 : decode cX11_mayAsk 98 = .ok (.iload_n 3, 1) := by decide +kernel
theorem dX11_mayAsk_99 : decode cX11_mayAsk 99 = .ok (.ifCond .eq 12, 3) := by decide +kernel
theorem dX11_mayAsk_102 : decode cX11_mayAsk 102 = .ok (.iload_n 2, 1) := by decide +kernel
theorem dX11_mayAsk_103 : decode cX11_mayAsk 103 = .ok (.iconst 4, 1) := by decide +kernel
theorem dX11_mayAsk_104 : decode cX11_mayAsk 104 = .ok (.if_icmp .gt 7, 3) := by decide +kernel
theorem dX11_mayAsk_107 : decode cX11_mayAsk 107 = .ok (.iconst 1, 1) := by decide +kernel
theorem dX11_mayAsk_108 : decode cX11_mayAsk 108 = .ok (.goto 4, 3) := by decide +kernel
theorem dX11_mayAsk_111 : decode cX11_mayAsk 111 = .ok (.iconst 0, 1) := by decide +kernel
theorem dX11_mayAsk_112 : decode cX11_mayAsk 112 = .ok (.ireturn, 1) := by decide +kernel
theorem dX11_choose_0 : decode cX11_choose 0 = .ok (.iconst 0, 1) := by decide +kernel
theorem dX11_choose_1 : decode cX11_choose 1 = .ok (.istore 4, 2) := by decide +kernel
theorem dX11_choose_3 : decode cX11_choose 3 = .ok (.iconst 0, 1) := by decide +kernel
theorem dX11_choose_4 : decode cX11_choose 4 = .ok (.istore 5, 2) := by decide +kernel
theorem dX11_choose_6 : decode cX11_choose 6 = .ok (.iconst 0, 1) := by decide +kernel
theorem dX11_choose_7 : decode cX11_choose 7 = .ok (.istore 6, 2) := by decide +kernel
theorem dX11_choose_9 : decode cX11_choose 9 = .ok (.iload 6, 2) := by decide +kernel
theorem dX11_choose_11 : decode cX11_choose 11 = .ok (.bipush 6, 2) := by decide +kernel
theorem dX11_choose_13 : decode cX11_choose 13 = .ok (.if_icmp .ge 113, 3) := by decide +kernel
theorem dX11_choose_16 : decode cX11_choose 16 = .ok (.aload_n 0, 1) := by decide +kernel
theorem dX11_choose_17 : decode cX11_choose 17 = .ok (.getfield 336, 3) := by decide +kernel
theorem dX11_choose_20 : decode cX11_choose 20 = .ok (.iload 6, 2) := by decide +kernel
theorem dX11_choose_22 : decode cX11_choose 22 = .ok (.iconst (-1), 1) := by decide +kernel
theorem dX11_choose_23 : decode cX11_choose 23 = .ok (.iastore, 1) := by decide +kernel
theorem dX11_choose_24 : decode cX11_choose 24 = .ok (.iload_n 1, 1) := by decide +kernel
theorem dX11_choose_25 : decode cX11_choose 25 = .ok (.iload 6, 2) := by decide +kernel
theorem dX11_choose_27 : decode cX11_choose 27 = .ok (.ishr, 1) := by decide +kernel
theorem dX11_choose_28 : decode cX11_choose 28 = .ok (.iconst 1, 1) := by decide +kernel
theorem dX11_choose_29 : decode cX11_choose 29 = .ok (.iand, 1) := by decide +kernel
theorem dX11_choose_30 : decode cX11_choose 30 = .ok (.iconst 1, 1) := by decide +kernel
theorem dX11_choose_31 : decode cX11_choose 31 = .ok (.if_icmp .ne 89, 3) := by decide +kernel
theorem dX11_choose_34 : decode cX11_choose 34 = .ok (.iload_n 3, 1) := by decide +kernel
theorem dX11_choose_35 : decode cX11_choose 35 = .ok (.iconst 2, 1) := by decide +kernel
theorem dX11_choose_36 : decode cX11_choose 36 = .ok (.iload_n 2, 1) := by decide +kernel
theorem dX11_choose_37 : decode cX11_choose 37 = .ok (.iconst 1, 1) := by decide +kernel
theorem dX11_choose_38 : decode cX11_choose 38 = .ok (.isub, 1) := by decide +kernel
theorem dX11_choose_39 : decode cX11_choose 39 = .ok (.iload 5, 2) := by decide +kernel
theorem dX11_choose_41 : decode cX11_choose 41 = .ok (.isub, 1) := by decide +kernel
theorem dX11_choose_42 : decode cX11_choose 42 = .ok (.imul, 1) := by decide +kernel
theorem dX11_choose_43 : decode cX11_choose 43 = .ok (.ishr, 1) := by decide +kernel
theorem dX11_choose_44 : decode cX11_choose 44 = .ok (.iconst 3, 1) := by decide +kernel
theorem dX11_choose_45 : decode cX11_choose 45 = .ok (.iand, 1) := by decide +kernel
theorem dX11_choose_46 : decode cX11_choose 46 = .ok (.istore 7, 2) := by decide +kernel
theorem dX11_choose_48 : decode cX11_choose 48 = .ok (.iinc 5 1, 3) := by decide +kernel
theorem dX11_choose_51 : decode cX11_choose 51 = .ok (.aload_n 0, 1) := by decide +kernel
theorem dX11_choose_52 : decode cX11_choose 52 = .ok (.getfield 336, 3) := by decide +kernel
theorem dX11_choose_55 : decode cX11_choose 55 = .ok (.iload 6, 2) := by decide +kernel
theorem dX11_choose_57 : decode cX11_choose 57 = .ok (.iload 7, 2) := by decide +kernel
theorem dX11_choose_59 : decode cX11_choose 59 = .ok (.iconst 3, 1) := by decide +kernel
theorem dX11_choose_60 : decode cX11_choose 60 = .ok (.if_icmp .ne 7, 3) := by decide +kernel
theorem dX11_choose_63 : decode cX11_choose 63 = .ok (.iconst (-1), 1) := by decide +kernel
theorem dX11_choose_64 : decode cX11_choose 64 = .ok (.goto 7, 3) := by decide +kernel
theorem dX11_choose_67 : decode cX11_choose 67 = .ok (.iconst 4, 1) := by decide +kernel
theorem dX11_choose_68 : decode cX11_choose 68 = .ok (.iload 7, 2) := by decide +kernel
theorem dX11_choose_70 : decode cX11_choose 70 = .ok (.imul, 1) := by decide +kernel
theorem dX11_choose_71 : decode cX11_choose 71 = .ok (.iastore, 1) := by decide +kernel
theorem dX11_choose_72 : decode cX11_choose 72 = .ok (.aload_n 0, 1) := by decide +kernel
theorem dX11_choose_73 : decode cX11_choose 73 = .ok (.getfield 336, 3) := by decide +kernel
theorem dX11_choose_76 : decode cX11_choose 76 = .ok (.iload 6, 2) := by decide +kernel
theorem dX11_choose_78 : decode cX11_choose 78 = .ok (.iaload, 1) := by decide +kernel
theorem dX11_choose_79 : decode cX11_choose 79 = .ok (.iconst (-1), 1) := by decide +kernel
theorem dX11_choose_80 : decode cX11_choose 80 = .ok (.if_icmp .eq 24, 3) := by decide +kernel
theorem dX11_choose_83 : decode cX11_choose 83 = .ok (.aload_n 0, 1) := by decide +kernel
theorem dX11_choose_84 : decode cX11_choose 84 = .ok (.getfield 26, 3) := by decide +kernel
theorem dX11_choose_87 : decode cX11_choose 87 = .ok (.aload_n 0, 1) := by decide +kernel
theorem dX11_choose_88 : decode cX11_choose 88 = .ok (.getfield 336, 3) := by decide +kernel
theorem dX11_choose_91 : decode cX11_choose 91 = .ok (.iload 6, 2) := by decide +kernel
theorem dX11_choose_93 : decode cX11_choose 93 = .ok (.iaload, 1) := by decide +kernel
theorem dX11_choose_94 : decode cX11_choose 94 = .ok (.iadd, 1) := by decide +kernel
theorem dX11_choose_95 : decode cX11_choose 95 = .ok (.aload_n 0, 1) := by decide +kernel
theorem dX11_choose_96 : decode cX11_choose 96 = .ok (.getfield 136, 3) := by decide +kernel
theorem dX11_choose_99 : decode cX11_choose 99 = .ok (.if_icmp .le 5, 3) := by decide +kernel
theorem dX11_choose_102 : decode cX11_choose 102 = .ok (.iconst (-1), 1) := by decide +kernel
theorem dX11_choose_103 : decode cX11_choose 103 = .ok (.ireturn, 1) := by decide +kernel
theorem dX11_choose_104 : decode cX11_choose 104 = .ok (.iload 4, 2) := by decide +kernel
theorem dX11_choose_106 : decode cX11_choose 106 = .ok (.iload 7, 2) := by decide +kernel
theorem dX11_choose_108 : decode cX11_choose 108 = .ok (.iconst 3, 1) := by decide +kernel
theorem dX11_choose_109 : decode cX11_choose 109 = .ok (.if_icmp .ne 7, 3) := by decide +kernel
theorem dX11_choose_112 : decode cX11_choose 112 = .ok (.iconst 0, 1) := by decide +kernel
theorem dX11_choose_113 : decode cX11_choose 113 = .ok (.goto 4, 3) := by decide +kernel
theorem dX11_choose_116 : decode cX11_choose 116 = .ok (.iconst 1, 1) := by decide +kernel
theorem dX11_choose_117 : decode cX11_choose 117 = .ok (.iadd, 1) := by decide +kernel
theorem dX11_choose_118 : decode cX11_choose 118 = .ok (.istore 4, 2) := by decide +kernel
theorem dX11_choose_120 : decode cX11_choose 120 = .ok (.iinc 6 1, 3) := by decide +kernel
theorem dX11_choose_123 : decode cX11_choose 123 = .ok (.goto (-114), 3) := by decide +kernel
theorem dX11_choose_126 : decode cX11_choose 126 = .ok (.iload 4, 2) := by decide +kernel
theorem dX11_choose_128 : decode cX11_choose 128 = .ok (.ireturn, 1) := by decide +kernel
theorem dX11_countBits_0 : decode cX11_countBits 0 = .ok (.iconst 0, 1) := by decide +kernel
theorem dX11_countBits_1 : decode cX11_countBits 1 = .ok (.istore_n 1, 1) := by decide +kernel
theorem dX11_countBits_2 : decode cX11_countBits 2 = .ok (.iconst 0, 1) := by decide +kernel
theorem dX11_countBits_3 : decode cX11_countBits 3 = .ok (.istore_n 2, 1) := by decide +kernel
theorem dX11_countBits_4 : decode cX11_countBits 4 = .ok (.iload_n 2, 1) := by decide +kernel
theorem dX11_countBits_5 : decode cX11_countBits 5 = .ok (.bipush 6, 2) := by decide +kernel
theorem dX11_countBits_7 : decode cX11_countBits 7 = .ok (.if_icmp .ge 17, 3) := by decide +kernel
theorem dX11_countBits_10 : decode cX11_countBits 10 = .ok (.iload_n 1, 1) := by decide +kernel
theorem dX11_countBits_11 : decode cX11_countBits 11 = .ok (.iload_n 0, 1) := by decide +kernel
theorem dX11_countBits_12 : decode cX11_countBits 12 = .ok (.iload_n 2, 1) := by decide +kernel
theorem dX11_countBits_13 : decode cX11_countBits 13 = .ok (.ishr, 1) := by decide +kernel
theorem dX11_countBits_14 : decode cX11_countBits 14 = .ok (.iconst 1, 1) := by decide +kernel
theorem dX11_countBits_15 : decode cX11_countBits 15 = .ok (.iand, 1) := by decide +kernel
theorem dX11_countBits_16 : decode cX11_countBits 16 = .ok (.iadd, 1) := by decide +kernel
theorem dX11_countBits_17 : decode cX11_countBits 17 = .ok (.istore_n 1, 1) := by decide +kernel
theorem dX11_countBits_18 : decode cX11_countBits 18 = .ok (.iinc 2 1, 3) := by decide +kernel
theorem dX11_countBits_21 : decode cX11_countBits 21 = .ok (.goto (-17), 3) := by decide +kernel
theorem dX11_countBits_24 : decode cX11_countBits 24 = .ok (.iload_n 1, 1) := by decide +kernel
theorem dX11_countBits_25 : decode cX11_countBits 25 = .ok (.ireturn, 1) := by decide +kernel
theorem dX11_best_0 : decode cX11_best 0 = .ok (.aload_n 0, 1) := by decide +kernel
theorem dX11_best_1 : decode cX11_best 1 = .ok (.iload_n 1, 1) := by decide +kernel
theorem dX11_best_2 : decode cX11_best 2 = .ok (.invokevirtual 405, 3) := by decide +kernel
theorem dX11_best_5 : decode cX11_best 5 = .ok (.ifCond .ne 7, 3) := by decide +kernel
theorem dX11_best_8 : decode cX11_best 8 = .ok (.ldc2_w 302, 3) := by decide +kernel
theorem dX11_best_11 : decode cX11_best 11 = .ok (.lreturn, 1) := by decide +kernel
theorem dX11_best_12 : decode cX11_best 12 = .ok (.iload_n 1, 1) := by decide +kernel
theorem dX11_best_13 : decode cX11_best 13 = .ok (.invokestatic 408, 3) := by decide +kernel
theorem dX11_best_16 : decode cX11_best 16 = .ok (.istore_n 2, 1) := by decide +kernel
theorem dX11_best_17 : decode cX11_best 17 = .ok (.iconst (-1), 1) := by decide +kernel
theorem dX11_best_18 : decode cX11_best 18 = .ok (.istore_n 3, 1) := by decide +kernel
theorem dX11_best_19 : decode cX11_best 19 = .ok (.iconst (-1), 1) := by decide +kernel
theorem dX11_best_20 : decode cX11_best 20 = .ok (.istore 4, 2) := by decide +kernel
theorem dX11_best_22 : decode cX11_best 22 = .ok (.iconst 0, 1) := by decide +kernel
theorem dX11_best_23 : decode cX11_best 23 = .ok (.istore 5, 2) := by decide +kernel
theorem dX11_best_25 : decode cX11_best 25 = .ok (.iconst 0, 1) := by decide +kernel
theorem dX11_best_26 : decode cX11_best 26 = .ok (.istore 6, 2) := by decide +kernel
theorem dX11_best_28 : decode cX11_best 28 = .ok (.iload 6, 2) := by decide +kernel
theorem dX11_best_30 : decode cX11_best 30 = .ok (.iconst 1, 1) := by decide +kernel
theorem dX11_best_31 : decode cX11_best 31 = .ok (.iconst 2, 1) := by decide +kernel
theorem dX11_best_32 : decode cX11_best 32 = .ok (.iload_n 2, 1) := by decide +kernel
theorem dX11_best_33 : decode cX11_best 33 = .ok (.imul, 1) := by decide +kernel
theorem dX11_best_34 : decode cX11_best 34 = .ok (.ishl, 1) := by decide +kernel
theorem dX11_best_35 : decode cX11_best 35 = .ok (.if_icmp .ge 69, 3) := by decide +kernel
theorem dX11_best_38 : decode cX11_best 38 = .ok (.aload_n 0, 1) := by decide +kernel
theorem dX11_best_39 : decode cX11_best 39 = .ok (.iload_n 1, 1) := by decide +kernel
theorem dX11_best_40 : decode cX11_best 40 = .ok (.iload_n 2, 1) := by decide +kernel
theorem dX11_best_41 : decode cX11_best 41 = .ok (.iload 6, 2) := by decide +kernel
theorem dX11_best_43 : decode cX11_best 43 = .ok (.invokevirtual 411, 3) := by decide +kernel
theorem dX11_best_46 : decode cX11_best 46 = .ok (.istore 7, 2) := by decide +kernel
theorem dX11_best_48 : decode cX11_best 48 = .ok (.iload 7, 2) := by decide +kernel
theorem dX11_best_50 : decode cX11_best 50 = .ok (.iconst (-1), 1) := by decide +kernel
theorem dX11_best_51 : decode cX11_best 51 = .ok (.if_icmp .ne 6, 3) := by decide +kernel
theorem dX11_best_54 : decode cX11_best 54 = .ok (.goto 44, 3) := by decide +kernel
theorem dX11_best_57 : decode cX11_best 57 = .ok (.aload_n 0, 1) := by decide +kernel
theorem dX11_best_58 : decode cX11_best 58 = .ok (.invokevirtual 414, 3) := by decide +kernel
theorem dX11_best_61 : decode cX11_best 61 = .ok (.istore 8, 2) := by decide +kernel
theorem dX11_best_63 : decode cX11_best 63 = .ok (.iload_n 3, 1) := by decide +kernel
theorem dX11_best_64 : decode cX11_best 64 = .ok (.iconst (-1), 1) := by decide +kernel
theorem dX11_best_65 : decode cX11_best 65 = .ok (.if_icmp .eq 22, 3) := by decide +kernel
theorem dX11_best_68 : decode cX11_best 68 = .ok (.iload 8, 2) := by decide +kernel
theorem dX11_best_70 : decode cX11_best 70 = .ok (.iload_n 3, 1) := by decide +kernel
theorem dX11_best_71 : decode cX11_best 71 = .ok (.if_icmp .lt 16, 3) := by decide +kernel
theorem dX11_best_74 : decode cX11_best 74 = .ok (.iload 8, 2) := by decide +kernel
theorem dX11_best_76 : decode cX11_best 76 = .ok (.iload_n 3, 1) := by decide +kernel
theorem dX11_best_77 : decode cX11_best 77 = .ok (.if_icmp .ne 21, 3) := by decide +kernel
theorem dX11_best_80 : decode cX11_best 80 = .ok (.iload 7, 2) := by decide +kernel
theorem dX11_best_82 : decode cX11_best 82 = .ok (.iload 4, 2) := by decide +kernel
theorem dX11_best_84 : decode cX11_best 84 = .ok (.if_icmp .ge 14, 3) := by decide +kernel
theorem dX11_best_87 : decode cX11_best 87 = .ok (.iload 8, 2) := by decide +kernel
theorem dX11_best_89 : decode cX11_best 89 = .ok (.istore_n 3, 1) := by decide +kernel
theorem dX11_best_90 : decode cX11_best 90 = .ok (.iload 7, 2) := by decide +kernel
theorem dX11_best_92 : decode cX11_best 92 = .ok (.istore 4, 2) := by decide +kernel
theorem dX11_best_94 : decode cX11_best 94 = .ok (.iload 6, 2) := by decide +kernel
theorem dX11_best_96 : decode cX11_best 96 = .ok (.istore 5, 2) := by decide +kernel
theorem dX11_best_98 : decode cX11_best 98 = .ok (.iinc 6 1, 3) := by decide +kernel
theorem dX11_best_101 : decode cX11_best 101 = .ok (.goto (-73), 3) := by decide +kernel
theorem dX11_best_104 : decode cX11_best 104 = .ok (.aload_n 0, 1) := by decide +kernel
theorem dX11_best_105 : decode cX11_best 105 = .ok (.iload_n 1, 1) := by decide +kernel
theorem dX11_best_106 : decode cX11_best 106 = .ok (.iload_n 2, 1) := by decide +kernel
theorem dX11_best_107 : decode cX11_best 107 = .ok (.iload 5, 2) := by decide +kernel
theorem dX11_best_109 : decode cX11_best 109 = .ok (.invokevirtual 411, 3) := by decide +kernel
theorem dX11_best_112 : decode cX11_best 112 = .ok (.istore 6, 2) := by decide +kernel
theorem dX11_best_114 : decode cX11_best 114 = .ok (.iconst 0, 1) := by decide +kernel
theorem dX11_best_115 : decode cX11_best 115 = .ok (.istore 7, 2) := by decide +kernel
theorem dX11_best_117 : decode cX11_best 117 = .ok (.iload 7, 2) := by decide +kernel
theorem dX11_best_119 : decode cX11_best 119 = .ok (.bipush 6, 2) := by decide +kernel
theorem dX11_best_121 : decode cX11_best 121 = .ok (.if_icmp .ge 23, 3) := by decide +kernel
theorem dX11_best_124 : decode cX11_best 124 = .ok (.aload_n 0, 1) := by decide +kernel
theorem dX11_best_125 : decode cX11_best 125 = .ok (.getfield 339, 3) := by decide +kernel
theorem dX11_best_128 : decode cX11_best 128 = .ok (.iload 7, 2) := by decide +kernel
theorem dX11_best_130 : decode cX11_best 130 = .ok (.aload_n 0, 1) := by decide +kernel
theorem dX11_best_131 : decode cX11_best 131 = .ok (.getfield 336, 3) := by decide +kernel
theorem dX11_best_134 : decode cX11_best 134 = .ok (.iload 7, 2) := by decide +kernel
theorem dX11_best_136 : decode cX11_best 136 = .ok (.iaload, 1) := by decide +kernel
theorem dX11_best_137 : decode cX11_best 137 = .ok (.iastore, 1) := by decide +kernel
theorem dX11_best_138 : decode cX11_best 138 = .ok (.iinc 7 1, 3) := by decide +kernel
theorem dX11_best_141 : decode cX11_best 141 = .ok (.goto (-24), 3) := by decide +kernel
theorem dX11_best_144 : decode cX11_best 144 = .ok (.iload_n 3, 1) := by decide +kernel
theorem dX11_best_145 : decode cX11_best 145 = .ok (.i2l, 1) := by decide +kernel
theorem dX11_best_146 : decode cX11_best 146 = .ok (.lreturn, 1) := by decide +kernel
theorem dX11_bestCall_0 : decode cX11_bestCall 0 = .ok (.iload_n 1, 1) := by decide +kernel
theorem dX11_bestCall_1 : decode cX11_bestCall 1 = .ok (.i2l, 1) := by decide +kernel
theorem dX11_bestCall_2 : decode cX11_bestCall 2 = .ok (.lconst 0, 1) := by decide +kernel
theorem dX11_bestCall_3 : decode cX11_bestCall 3 = .ok (.ldc2_w 49, 3) := by decide +kernel
theorem dX11_bestCall_6 : decode cX11_bestCall 6 = .ok (.invokestatic 18, 3) := by decide +kernel
theorem dX11_bestCall_9 : decode cX11_bestCall 9 = .ok (.ifCond .eq 12, 3) := by decide +kernel
theorem dX11_bestCall_12 : decode cX11_bestCall 12 = .ok (.aload_n 0, 1) := by decide +kernel
theorem dX11_bestCall_13 : decode cX11_bestCall 13 = .ok (.getfield 339, 3) := by decide +kernel
theorem dX11_bestCall_16 : decode cX11_bestCall 16 = .ok (.iload_n 1, 1) := by decide +kernel
theorem dX11_bestCall_17 : decode cX11_bestCall 17 = .ok (.iaload, 1) := by decide +kernel
theorem dX11_bestCall_18 : decode cX11_bestCall 18 = .ok (.goto 4, 3) := by decide +kernel
theorem dX11_bestCall_21 : decode cX11_bestCall 21 = .ok (.iconst (-1), 1) := by decide +kernel
theorem dX11_bestCall_22 : decode cX11_bestCall 22 = .ok (.ireturn, 1) := by decide +kernel
theorem dX11_sumOf_0 : decode cX11_sumOf 0 = .ok (.iconst 0, 1) := by decide +kernel
theorem dX11_sumOf_1 : decode cX11_sumOf 1 = .ok (.istore_n 2, 1) := by decide +kernel
theorem dX11_sumOf_2 : decode cX11_sumOf 2 = .ok (.iconst 0, 1) := by decide +kernel
theorem dX11_sumOf_3 : decode cX11_sumOf 3 = .ok (.istore_n 3, 1) := by decide +kernel
theorem dX11_sumOf_4 : decode cX11_sumOf 4 = .ok (.iload_n 3, 1) := by decide +kernel
theorem dX11_sumOf_5 : decode cX11_sumOf 5 = .ok (.iload_n 1, 1) := by decide +kernel
theorem dX11_sumOf_6 : decode cX11_sumOf 6 = .ok (.if_icmp .ge 15, 3) := by decide +kernel
theorem dX11_sumOf_9 : decode cX11_sumOf 9 = .ok (.iload_n 2, 1) := by decide +kernel
theorem dX11_sumOf_10 : decode cX11_sumOf 10 = .ok (.aload_n 0, 1) := by decide +kernel
theorem dX11_sumOf_11 : decode cX11_sumOf 11 = .ok (.iload_n 3, 1) := by decide +kernel
theorem dX11_sumOf_12 : decode cX11_sumOf 12 = .ok (.iaload, 1) := by decide +kernel
theorem dX11_sumOf_13 : decode cX11_sumOf 13 = .ok (.iadd, 1) := by decide +kernel
theorem dX11_sumOf_14 : decode cX11_sumOf 14 = .ok (.istore_n 2, 1) := by decide +kernel
theorem dX11_sumOf_15 : decode cX11_sumOf 15 = .ok (.iinc 3 1, 3) := by decide +kernel
theorem dX11_sumOf_18 : decode cX11_sumOf 18 = .ok (.goto (-14), 3) := by decide +kernel
theorem dX11_sumOf_21 : decode cX11_sumOf 21 = .ok (.iload_n 2, 1) := by decide +kernel
theorem dX11_sumOf_22 : decode cX11_sumOf 22 = .ok (.ireturn, 1) := by decide +kernel
theorem dX11_count_0 : decode cX11_count 0 = .ok (.iload_n 1, 1) := by decide +kernel
theorem dX11_count_1 : decode cX11_count 1 = .ok (.tableswitch 182 0 15 #[79, 84, 89, 94, 99, 104, 109, 114, 124, 134, 144, 153, 162, 167, 172, 177], 79) := by decide +kernel
theorem dX11_count_80 : decode cX11_count 80 = .ok (.aload_n 0, 1) := by decide +kernel
theorem dX11_count_81 : decode cX11_count 81 = .ok (.getfield 26, 3) := by decide +kernel
theorem dX11_count_84 : decode cX11_count 84 = .ok (.ireturn, 1) := by decide +kernel
theorem dX11_count_85 : decode cX11_count 85 = .ok (.aload_n 0, 1) := by decide +kernel
theorem dX11_count_86 : decode cX11_count 86 = .ok (.getfield 1, 3) := by decide +kernel
theorem dX11_count_89 : decode cX11_count 89 = .ok (.ireturn, 1) := by decide +kernel
theorem dX11_count_90 : decode cX11_count 90 = .ok (.aload_n 0, 1) := by decide +kernel
theorem dX11_count_91 : decode cX11_count 91 = .ok (.getfield 7, 3) := by decide +kernel
theorem dX11_count_94 : decode cX11_count 94 = .ok (.ireturn, 1) := by decide +kernel
theorem dX11_count_95 : decode cX11_count 95 = .ok (.aload_n 0, 1) := by decide +kernel
theorem dX11_count_96 : decode cX11_count 96 = .ok (.getfield 10, 3) := by decide +kernel
theorem dX11_count_99 : decode cX11_count 99 = .ok (.ireturn, 1) := by decide +kernel
theorem dX11_count_100 : decode cX11_count 100 = .ok (.aload_n 0, 1) := by decide +kernel
theorem dX11_count_101 : decode cX11_count 101 = .ok (.getfield 13, 3) := by decide +kernel
theorem dX11_count_104 : decode cX11_count 104 = .ok (.ireturn, 1) := by decide +kernel
theorem dX11_count_105 : decode cX11_count 105 = .ok (.aload_n 0, 1) := by decide +kernel
theorem dX11_count_106 : decode cX11_count 106 = .ok (.getfield 147, 3) := by decide +kernel
theorem dX11_count_109 : decode cX11_count 109 = .ok (.ireturn, 1) := by decide +kernel
theorem dX11_count_110 : decode cX11_count 110 = .ok (.aload_n 0, 1) := by decide +kernel
theorem dX11_count_111 : decode cX11_count 111 = .ok (.getfield 136, 3) := by decide +kernel
theorem dX11_count_114 : decode cX11_count 114 = .ok (.ireturn, 1) := by decide +kernel
theorem dX11_count_115 : decode cX11_count 115 = .ok (.aload_n 0, 1) := by decide +kernel
theorem dX11_count_116 : decode cX11_count 116 = .ok (.getfield 33, 3) := by decide +kernel
theorem dX11_count_119 : decode cX11_count 119 = .ok (.bipush 6, 2) := by decide +kernel
theorem dX11_count_121 : decode cX11_count 121 = .ok (.invokestatic 418, 3) := by decide +kernel
theorem dX11_count_124 : decode cX11_count 124 = .ok (.ireturn, 1) := by decide +kernel
theorem dX11_count_125 : decode cX11_count 125 = .ok (.aload_n 0, 1) := by decide +kernel
theorem dX11_count_126 : decode cX11_count 126 = .ok (.getfield 93, 3) := by decide +kernel
theorem dX11_count_129 : decode cX11_count 129 = .ok (.bipush 6, 2) := by decide +kernel
theorem dX11_count_131 : decode cX11_count 131 = .ok (.invokestatic 418, 3) := by decide +kernel
theorem dX11_count_134 : decode cX11_count 134 = .ok (.ireturn, 1) := by decide +kernel
theorem dX11_count_135 : decode cX11_count 135 = .ok (.aload_n 0, 1) := by decide +kernel
theorem dX11_count_136 : decode cX11_count 136 = .ok (.getfield 36, 3) := by decide +kernel
theorem dX11_count_139 : decode cX11_count 139 = .ok (.bipush 6, 2) := by decide +kernel
theorem dX11_count_141 : decode cX11_count 141 = .ok (.invokestatic 418, 3) := by decide +kernel
theorem dX11_count_144 : decode cX11_count 144 = .ok (.ireturn, 1) := by decide +kernel
theorem dX11_count_145 : decode cX11_count 145 = .ok (.aload_n 0, 1) := by decide +kernel
theorem dX11_count_146 : decode cX11_count 146 = .ok (.getfield 128, 3) := by decide +kernel
theorem dX11_count_149 : decode cX11_count 149 = .ok (.iconst 4, 1) := by decide +kernel
theorem dX11_count_150 : decode cX11_count 150 = .ok (.invokestatic 418, 3) := by decide +kernel
theorem dX11_count_153 : decode cX11_count 153 = .ok (.ireturn, 1) := by decide +kernel
theorem dX11_count_154 : decode cX11_count 154 = .ok (.aload_n 0, 1) := by decide +kernel
theorem dX11_count_155 : decode cX11_count 155 = .ok (.getfield 106, 3) := by decide +kernel
theorem dX11_count_158 : decode cX11_count 158 = .ok (.iconst 3, 1) := by decide +kernel
theorem dX11_count_159 : decode cX11_count 159 = .ok (.invokestatic 418, 3) := by decide +kernel
theorem dX11_count_162 : decode cX11_count 162 = .ok (.ireturn, 1) := by decide +kernel
theorem dX11_count_163 : decode cX11_count 163 = .ok (.aload_n 0, 1) := by decide +kernel
theorem dX11_count_164 : decode cX11_count 164 = .ok (.getfield 366, 3) := by decide +kernel
theorem dX11_count_167 : decode cX11_count 167 = .ok (.ireturn, 1) := by decide +kernel
theorem dX11_count_168 : decode cX11_count 168 = .ok (.aload_n 0, 1) := by decide +kernel
theorem dX11_count_169 : decode cX11_count 169 = .ok (.getfield 280, 3) := by decide +kernel
theorem dX11_count_172 : decode cX11_count 172 = .ok (.ireturn, 1) := by decide +kernel
theorem dX11_count_173 : decode cX11_count 173 = .ok (.aload_n 0, 1) := by decide +kernel
theorem dX11_count_174 : decode cX11_count 174 = .ok (.getfield 177, 3) := by decide +kernel
theorem dX11_count_177 : decode cX11_count 177 = .ok (.ireturn, 1) := by decide +kernel
theorem dX11_count_178 : decode cX11_count 178 = .ok (.aload_n 0, 1) := by decide +kernel
theorem dX11_count_179 : decode cX11_count 179 = .ok (.getfield 286, 3) := by decide +kernel
theorem dX11_count_182 : decode cX11_count 182 = .ok (.ireturn, 1) := by decide +kernel
theorem dX11_count_183 : decode cX11_count 183 = .ok (.bipush (-2), 2) := by decide +kernel
theorem dX11_count_185 : decode cX11_count 185 = .ok (.ireturn, 1) := by decide +kernel
theorem dX11_isSheet_0 : decode cX11_isSheet 0 = .ok (.iload_n 0, 1) := by decide +kernel
theorem dX11_isSheet_1 : decode cX11_isSheet 1 = .ok (.i2l, 1) := by decide +kernel
theorem dX11_isSheet_2 : decode cX11_isSheet 2 = .ok (.lconst 0, 1) := by decide +kernel
theorem dX11_isSheet_3 : decode cX11_isSheet 3 = .ok (.ldc2_w 422, 3) := by decide +kernel
theorem dX11_isSheet_6 : decode cX11_isSheet 6 = .ok (.invokestatic 18, 3) := by decide +kernel
theorem dX11_isSheet_9 : decode cX11_isSheet 9 = .ok (.ireturn, 1) := by decide +kernel
theorem dX11_sheet_0 : decode cX11_sheet 0 = .ok (.iload_n 1, 1) := by decide +kernel
theorem dX11_sheet_1 : decode cX11_sheet 1 = .ok (.invokestatic 424, 3) := by decide +kernel
theorem dX11_sheet_4 : decode cX11_sheet 4 = .ok (.ifCond .eq 27, 3) := by decide +kernel
theorem dX11_sheet_7 : decode cX11_sheet 7 = .ok (.iload_n 2, 1) := by decide +kernel
theorem dX11_sheet_8 : decode cX11_sheet 8 = .ok (.i2l, 1) := by decide +kernel
theorem dX11_sheet_9 : decode cX11_sheet 9 = .ok (.ldc2_w 427, 3) := by decide +kernel
theorem dX11_sheet_12 : decode cX11_sheet 12 = .ok (.ldc2_w 123, 3) := by decide +kernel
theorem dX11_sheet_15 : decode cX11_sheet 15 = .ok (.invokestatic 18, 3) := by decide +kernel
theorem dX11_sheet_18 : decode cX11_sheet 18 = .ok (.ifCond .eq 13, 3) := by decide +kernel
theorem dX11_sheet_21 : decode cX11_sheet 21 = .ok (.iload_n 2, 1) := by decide +kernel
theorem dX11_sheet_22 : decode cX11_sheet 22 = .ok (.ifCond .lt 12, 3) := by decide +kernel
theorem dX11_sheet_25 : decode cX11_sheet 25 = .ok (.iload_n 3, 1) := by decide +kernel
theorem dX11_sheet_26 : decode cX11_sheet 26 = .ok (.bipush 40, 2) := by decide +kernel
theorem dX11_sheet_28 : decode cX11_sheet 28 = .ok (.if_icmp .le 6, 3) := by decide +kernel
theorem dX11_sheet_31 : decode cX11_sheet 31 = .ok (.bipush (-2), 2) := by decide +kernel
theorem dX11_sheet_33 : decode cX11_sheet 33 = .ok (.ireturn, 1) := by decide +kernel
theorem dX11_sheet_34 : decode cX11_sheet 34 = .ok (.iload_n 2, 1) := by decide +kernel
theorem dX11_sheet_35 : decode cX11_sheet 35 = .ok (.ifCond .lt 10, 3) := by decide +kernel
theorem dX11_sheet_38 : decode cX11_sheet 38 = .ok (.iload_n 3, 1) := by decide +kernel
theorem dX11_sheet_39 : decode cX11_sheet 39 = .ok (.ifCond .ge 6, 3) := by decide +kernel
theorem dX11_sheet_42 : decode cX11_sheet 42 = .ok (.bipush (-14), 2) := by decide +kernel
theorem dX11_sheet_44 : decode cX11_sheet 44 = .ok (.ireturn, 1) := by decide +kernel
theorem dX11_sheet_45 : decode cX11_sheet 45 = .ok (.aload_n 0, 1) := by decide +kernel
theorem dX11_sheet_46 : decode cX11_sheet 46 = .ok (.getfield 342, 3) := by decide +kernel
theorem dX11_sheet_49 : decode cX11_sheet 49 = .ok (.iload_n 1, 1) := by decide +kernel
theorem dX11_sheet_50 : decode cX11_sheet 50 = .ok (.iload_n 2, 1) := by decide +kernel
theorem dX11_sheet_51 : decode cX11_sheet 51 = .ok (.iastore, 1) := by decide +kernel
theorem dX11_sheet_52 : decode cX11_sheet 52 = .ok (.aload_n 0, 1) := by decide +kernel
theorem dX11_sheet_53 : decode cX11_sheet 53 = .ok (.getfield 345, 3) := by decide +kernel
theorem dX11_sheet_56 : decode cX11_sheet 56 = .ok (.iload_n 1, 1) := by decide +kernel
theorem dX11_sheet_57 : decode cX11_sheet 57 = .ok (.iload_n 2, 1) := by decide +kernel
theorem dX11_sheet_58 : decode cX11_sheet 58 = .ok (.ifCond .ge 7, 3) := by decide +kernel
theorem dX11_sheet_61 : decode cX11_sheet 61 = .ok (.iconst 0, 1) := by decide +kernel
theorem dX11_sheet_62 : decode cX11_sheet 62 = .ok (.goto 4, 3) := by decide +kernel
theorem dX11_sheet_65 : decode cX11_sheet 65 = .ok (.iload_n 3, 1) := by decide +kernel
theorem dX11_sheet_66 : decode cX11_sheet 66 = .ok (.iastore, 1) := by decide +kernel
theorem dX11_sheet_67 : decode cX11_sheet 67 = .ok (.iconst 0, 1) := by decide +kernel
theorem dX11_sheet_68 : decode cX11_sheet 68 = .ok (.istore 4, 2) := by decide +kernel
theorem dX11_sheet_70 : decode cX11_sheet 70 = .ok (.iload 4, 2) := by decide +kernel
theorem dX11_sheet_72 : decode cX11_sheet 72 = .ok (.bipush 40, 2) := by decide +kernel
theorem dX11_sheet_74 : decode cX11_sheet 74 = .ok (.if_icmp .ge 22, 3) := by decide +kernel
theorem dX11_sheet_77 : decode cX11_sheet 77 = .ok (.aload_n 0, 1) := by decide +kernel
theorem dX11_sheet_78 : decode cX11_sheet 78 = .ok (.getfield 348, 3) := by decide +kernel
theorem dX11_sheet_81 : decode cX11_sheet 81 = .ok (.bipush 40, 2) := by decide +kernel
theorem dX11_sheet_83 : decode cX11_sheet 83 = .ok (.iload_n 1, 1) := by decide +kernel
theorem dX11_sheet_84 : decode cX11_sheet 84 = .ok (.imul, 1) := by decide +kernel
theorem dX11_sheet_85 : decode cX11_sheet 85 = .ok (.iload 4, 2) := by decide +kernel
theorem dX11_sheet_87 : decode cX11_sheet 87 = .ok (.iadd, 1) := by decide +kernel
theorem dX11_sheet_88 : decode cX11_sheet 88 = .ok (.iconst 0, 1) := by decide +kernel
theorem dX11_sheet_89 : decode cX11_sheet 89 = .ok (.iastore, 1) := by decide +kernel
theorem dX11_sheet_90 : decode cX11_sheet 90 = .ok (.iinc 4 1, 3) := by decide +kernel
theorem dX11_sheet_93 : decode cX11_sheet 93 = .ok (.goto (-23), 3) := by decide +kernel
theorem dX11_sheet_96 : decode cX11_sheet 96 = .ok (.iconst 1, 1) := by decide +kernel
theorem dX11_sheet_97 : decode cX11_sheet 97 = .ok (.ireturn, 1) := by decide +kernel
theorem dX11_cutTo_0 : decode cX11_cutTo 0 = .ok (.iload_n 0, 1) := by decide +kernel
theorem dX11_cutTo_1 : decode cX11_cutTo 1 = .ok (.ifCond .ne 8, 3) := by decide +kernel
theorem dX11_cutTo_4 : decode cX11_cutTo 4 = .ok (.iload_n 1, 1) := by decide +kernel
theorem dX11_cutTo_5 : decode cX11_cutTo 5 = .ok (.i2b, 1) := by decide +kernel
theorem dX11_cutTo_6 : decode cX11_cutTo 6 = .ok (.goto 14, 3) := by decide +kernel
theorem dX11_cutTo_9 : decode cX11_cutTo 9 = .ok (.iload_n 0, 1) := by decide +kernel
theorem dX11_cutTo_10 : decode cX11_cutTo 10 = .ok (.iconst 1, 1) := by decide +kernel
theorem dX11_cutTo_11 : decode cX11_cutTo 11 = .ok (.if_icmp .ne 8, 3) := by decide +kernel
theorem dX11_cutTo_14 : decode cX11_cutTo 14 = .ok (.iload_n 1, 1) := by decide +kernel
theorem dX11_cutTo_15 : decode cX11_cutTo 15 = .ok (.i2s, 1) := by decide +kernel
theorem dX11_cutTo_16 : decode cX11_cutTo 16 = .ok (.goto 4, 3) := by decide +kernel
theorem dX11_cutTo_19 : decode cX11_cutTo 19 = .ok (.iload_n 1, 1) := by decide +kernel
theorem dX11_cutTo_20 : decode cX11_cutTo 20 = .ok (.ireturn, 1) := by decide +kernel
theorem dX11_cell_0 : decode cX11_cell 0 = .ok (.iload_n 1, 1) := by decide +kernel
theorem dX11_cell_1 : decode cX11_cell 1 = .ok (.invokestatic 424, 3) := by decide +kernel
theorem dX11_cell_4 : decode cX11_cell 4 = .ok (.ifCond .ne 6, 3) := by decide +kernel
theorem dX11_cell_7 : decode cX11_cell 7 = .ok (.bipush (-2), 2) := by decide +kernel
theorem dX11_cell_9 : decode cX11_cell 9 = .ok (.ireturn, 1) := by decide +kernel
theorem dX11_cell_10 : decode cX11_cell 10 = .ok (.aload_n 0, 1) := by decide +kernel
theorem dX11_cell_11 : decode cX11_cell 11 = .ok (.getfield 342, 3) := by decide +kernel
theorem dX11_cell_14 : decode cX11_cell 14 = .ok (.iload_n 1, 1) := by decide +kernel
theorem dX11_cell_15 : decode cX11_cell 15 = .ok (.iaload, 1) := by decide +kernel
theorem dX11_cell_16 : decode cX11_cell 16 = .ok (.ifCond .ge 6, 3) := by decide +kernel
theorem dX11_cell_19 : decode cX11_cell 19 = .ok (.bipush (-11), 2) := by decide +kernel
theorem dX11_cell_21 : decode cX11_cell 21 = .ok (.ireturn, 1) := by decide +kernel
theorem dX11_cell_22 : decode cX11_cell 22 = .ok (.iload_n 2, 1) := by decide +kernel
theorem dX11_cell_23 : decode cX11_cell 23 = .ok (.i2l, 1) := by decide +kernel
theorem dX11_cell_24 : decode cX11_cell 24 = .ok (.lconst 0, 1) := by decide +kernel
theorem dX11_cell_25 : decode cX11_cell 25 = .ok (.aload_n 0, 1) := by decide +kernel
theorem dX11_cell_26 : decode cX11_cell 26 = .ok (.getfield 345, 3) := by decide +kernel
theorem dX11_cell_29 : decode cX11_cell 29 = .ok (.iload_n 1, 1) := by decide +kernel
theorem dX11_cell_30 : decode cX11_cell 30 = .ok (.iaload, 1) := by decide +kernel
theorem dX11_cell_31 : decode cX11_cell 31 = .ok (.iconst 1, 1) := by decide +kernel
theorem dX11_cell_32 : decode cX11_cell 32 = .ok (.isub, 1) := by decide +kernel
theorem dX11_cell_33 : decode cX11_cell 33 = .ok (.i2l, 1) := by decide +kernel
theorem dX11_cell_34 : decode cX11_cell 34 = .ok (.invokestatic 18, 3) := by decide +kernel
theorem dX11_cell_37 : decode cX11_cell 37 = .ok (.ifCond .ne 6, 3) := by decide +kernel
theorem dX11_cell_40 : decode cX11_cell 40 = .ok (.bipush (-12), 2) := by decide +kernel
theorem dX11_cell_42 : decode cX11_cell 42 = .ok (.ireturn, 1) := by decide +kernel
theorem dX11_cell_43 : decode cX11_cell 43 = .ok (.aload_n 0, 1) := by decide +kernel
theorem dX11_cell_44 : decode cX11_cell 44 = .ok (.getfield 348, 3) := by decide +kernel
theorem dX11_cell_47 : decode cX11_cell 47 = .ok (.bipush 40, 2) := by decide +kernel
theorem dX11_cell_49 : decode cX11_cell 49 = .ok (.iload_n 1, 1) := by decide +kernel
theorem dX11_cell_50 : decode cX11_cell 50 = .ok (.imul, 1) := by decide +kernel
theorem dX11_cell_51 : decode cX11_cell 51 = .ok (.iload_n 2, 1) := by decide +kernel
theorem dX11_cell_52 : decode cX11_cell 52 = .ok (.iadd, 1) := by decide +kernel
theorem dX11_cell_53 : decode cX11_cell 53 = .ok (.aload_n 0, 1) := by decide +kernel
theorem dX11_cell_54 : decode cX11_cell 54 = .ok (.getfield 342, 3) := by decide +kernel
theorem dX11_cell_57 : decode cX11_cell 57 = .ok (.iload_n 1, 1) := by decide +kernel
theorem dX11_cell_58 : decode cX11_cell 58 = .ok (.iaload, 1) := by decide +kernel
theorem dX11_cell_59 : decode cX11_cell 59 = .ok (.iload_n 3, 1) := by decide +kernel
theorem dX11_cell_60 : decode cX11_cell 60 = .ok (.invokestatic 429, 3) := by decide +kernel
theorem dX11_cell_63 : decode cX11_cell 63 = .ok (.iastore, 1) := by decide +kernel
theorem dX11_cell_64 : decode cX11_cell 64 = .ok (.iconst 1, 1) := by decide +kernel
theorem dX11_cell_65 : decode cX11_cell 65 = .ok (.ireturn, 1) := by decide +kernel
theorem dX11_copy_0 : decode cX11_copy 0 = .ok (.iload_n 1, 1) := by decide +kernel
theorem dX11_copy_1 : decode cX11_copy 1 = .ok (.invokestatic 424, 3) := by decide +kernel
theorem dX11_copy_4 : decode cX11_copy 4 = .ok (.ifCond .eq 10, 3) := by decide +kernel
theorem dX11_copy_7 : decode cX11_copy 7 = .ok (.iload_n 3, 1) := by decide +kernel
theorem dX11_copy_8 : decode cX11_copy 8 = .ok (.invokestatic 424, 3) := by decide +kernel
theorem dX11_copy_11 : decode cX11_copy 11 = .ok (.ifCond .ne 6, 3) := by decide +kernel
theorem dX11_copy_14 : decode cX11_copy 14 = .ok (.bipush (-2), 2) := by decide +kernel
theorem dX11_copy_16 : decode cX11_copy 16 = .ok (.ireturn, 1) := by decide +kernel
theorem dX11_copy_17 : decode cX11_copy 17 = .ok (.aload_n 0, 1) := by decide +kernel
theorem dX11_copy_18 : decode cX11_copy 18 = .ok (.getfield 342, 3) := by decide +kernel
theorem dX11_copy_21 : decode cX11_copy 21 = .ok (.iload_n 1, 1) := by decide +kernel
theorem dX11_copy_22 : decode cX11_copy 22 = .ok (.iaload, 1) := by decide +kernel
theorem dX11_copy_23 : decode cX11_copy 23 = .ok (.ifCond .lt 12, 3) := by decide +kernel
theorem dX11_copy_26 : decode cX11_copy 26 = .ok (.aload_n 0, 1) := by decide +kernel
theorem dX11_copy_27 : decode cX11_copy 27 = .ok (.getfield 342, 3) := by decide +kernel
theorem dX11_copy_30 : decode cX11_copy 30 = .ok (.iload_n 3, 1) := by decide +kernel
theorem dX11_copy_31 : decode cX11_copy 31 = .ok (.iaload, 1) := by decide +kernel
theorem dX11_copy_32 : decode cX11_copy 32 = .ok (.ifCond .ge 6, 3) := by decide +kernel
theorem dX11_copy_35 : decode cX11_copy 35 = .ok (.bipush (-11), 2) := by decide +kernel
theorem dX11_copy_37 : decode cX11_copy 37 = .ok (.ireturn, 1) := by decide +kernel
theorem dX11_copy_38 : decode cX11_copy 38 = .ok (.aload_n 0, 1) := by decide +kernel
theorem dX11_copy_39 : decode cX11_copy 39 = .ok (.getfield 342, 3) := by decide +kernel
theorem dX11_copy_42 : decode cX11_copy 42 = .ok (.iload_n 1, 1) := by decide +kernel
theorem dX11_copy_43 : decode cX11_copy 43 = .ok (.iaload, 1) := by decide +kernel
theorem dX11_copy_44 : decode cX11_copy 44 = .ok (.aload_n 0, 1) := by decide +kernel
theorem dX11_copy_45 : decode cX11_copy 45 = .ok (.getfield 342, 3) := by decide +kernel
theorem dX11_copy_48 : decode cX11_copy 48 = .ok (.iload_n 3, 1) := by decide +kernel
theorem dX11_copy_49 : decode cX11_copy 49 = .ok (.iaload, 1) := by decide +kernel
theorem dX11_copy_50 : decode cX11_copy 50 = .ok (.if_icmp .eq 6, 3) := by decide +kernel
theorem dX11_copy_53 : decode cX11_copy 53 = .ok (.bipush (-13), 2) := by decide +kernel
theorem dX11_copy_55 : decode cX11_copy 55 = .ok (.ireturn, 1) := by decide +kernel
theorem dX11_copy_56 : decode cX11_copy 56 = .ok (.iload 5, 2) := by decide +kernel
theorem dX11_copy_58 : decode cX11_copy 58 = .ok (.ifCond .lt 39, 3) := by decide +kernel
theorem dX11_copy_61 : decode cX11_copy 61 = .ok (.iload_n 2, 1) := by decide +kernel
theorem dX11_copy_62 : decode cX11_copy 62 = .ok (.ifCond .lt 35, 3) := by decide +kernel
theorem dX11_copy_65 : decode cX11_copy 65 = .ok (.iload 4, 2) := by decide +kernel
theorem dX11_copy_67 : decode cX11_copy 67 = .ok (.ifCond .lt 30, 3) := by decide +kernel
theorem dX11_copy_70 : decode cX11_copy 70 = .ok (.iload 5, 2) := by decide +kernel
theorem dX11_copy_72 : decode cX11_copy 72 = .ok (.aload_n 0, 1) := by decide +kernel
theorem dX11_copy_73 : decode cX11_copy 73 = .ok (.getfield 345, 3) := by decide +kernel
theorem dX11_copy_76 : decode cX11_copy 76 = .ok (.iload_n 1, 1) := by decide +kernel
theorem dX11_copy_77 : decode cX11_copy 77 = .ok (.iaload, 1) := by decide +kernel
theorem dX11_copy_78 : decode cX11_copy 78 = .ok (.iload_n 2, 1) := by decide +kernel
theorem dX11_copy_79 : decode cX11_copy 79 = .ok (.isub, 1) := by decide +kernel
theorem dX11_copy_80 : decode cX11_copy 80 = .ok (.if_icmp .gt 17, 3) := by decide +kernel
theorem dX11_copy_83 : decode cX11_copy 83 = .ok (.iload 5, 2) := by decide +kernel
theorem dX11_copy_85 : decode cX11_copy 85 = .ok (.aload_n 0, 1) := by decide +kernel
theorem dX11_copy_86 : decode cX11_copy 86 = .ok (.getfield 345, 3) := by decide +kernel
theorem dX11_copy_89 : decode cX11_copy 89 = .ok (.iload_n 3, 1) := by decide +kernel
theorem dX11_copy_90 : decode cX11_copy 90 = .ok (.iaload, 1) := by decide +kernel
theorem dX11_copy_91 : decode cX11_copy 91 = .ok (.iload 4, 2) := by decide +kernel
theorem dX11_copy_93 : decode cX11_copy 93 = .ok (.isub, 1) := by decide +kernel
theorem dX11_copy_94 : decode cX11_copy 94 = .ok (.if_icmp .le 6, 3) := by decide +kernel
theorem dX11_copy_97 : decode cX11_copy 97 = .ok (.bipush (-12), 2) := by decide +kernel
theorem dX11_copy_99 : decode cX11_copy 99 = .ok (.ireturn, 1) := by decide +kernel
theorem dX11_copy_100 : decode cX11_copy 100 = .ok (.iconst 0, 1) := by decide +kernel
theorem dX11_copy_101 : decode cX11_copy 101 = .ok (.istore 6, 2) := by decide +kernel
theorem dX11_copy_103 : decode cX11_copy 103 = .ok (.iload 6, 2) := by decide +kernel
theorem dX11_copy_105 : decode cX11_copy 105 = .ok (.iload 5, 2) := by decide +kernel
theorem dX11_copy_107 : decode cX11_copy 107 = .ok (.if_icmp .ge 30, 3) := by decide +kernel
theorem dX11_copy_110 : decode cX11_copy 110 = .ok (.aload_n 0, 1) := by decide +kernel
theorem dX11_copy_111 : decode cX11_copy 111 = .ok (.getfield 351, 3) := by decide +kernel
theorem dX11_copy_114 : decode cX11_copy 114 = .ok (.iload 6, 2) := by decide +kernel
theorem dX11_copy_116 : decode cX11_copy 116 = .ok (.aload_n 0, 1) := by decide +kernel
theorem dX11_copy_117 : decode cX11_copy 117 = .ok (.getfield 348, 3) := by decide +kernel
theorem dX11_copy_120 : decode cX11_copy 120 = .ok (.bipush 40, 2) := by decide +kernel
theorem dX11_copy_122 : decode cX11_copy 122 = .ok (.iload_n 1, 1) := by decide +kernel
theorem dX11_copy_123 : decode cX11_copy 123 = .ok (.imul, 1) := by decide +kernel
theorem dX11_copy_124 : decode cX11_copy 124 = .ok (.iload_n 2, 1) := by decide +kernel
theorem dX11_copy_125 : decode cX11_copy 125 = .ok (.iadd, 1) := by decide +kernel
theorem dX11_copy_126 : decode cX11_copy 126 = .ok (.iload 6, 2) := by decide +kernel
theorem dX11_copy_128 : decode cX11_copy 128 = .ok (.iadd, 1) := by decide +kernel
theorem dX11_copy_129 : decode cX11_copy 129 = .ok (.iaload, 1) := by decide +kernel
theorem dX11_copy_130 : decode cX11_copy 130 = .ok (.iastore, 1) := by decide +kernel
theorem dX11_copy_131 : decode cX11_copy 131 = .ok (.iinc 6 1, 3) := by decide +kernel
theorem dX11_copy_134 : decode cX11_copy 134 = .ok (.goto (-31), 3) := by decide +kernel
theorem dX11_copy_137 : decode cX11_copy 137 = .ok (.iconst 0, 1) := by decide +kernel
theorem dX11_copy_138 : decode cX11_copy 138 = .ok (.istore 6, 2) := by decide +kernel
theorem dX11_copy_140 : decode cX11_copy 140 = .ok (.iload 6, 2) := by decide +kernel
theorem dX11_copy_142 : decode cX11_copy 142 = .ok (.iload 5, 2) := by decide +kernel
theorem dX11_copy_144 : decode cX11_copy 144 = .ok (.if_icmp .ge 31, 3) := by decide +kernel
theorem dX11_copy_147 : decode cX11_copy 147 = .ok (.aload_n 0, 1) := by decide +kernel
theorem dX11_copy_148 : decode cX11_copy 148 = .ok (.getfield 348, 3) := by decide +kernel
theorem dX11_copy_151 : decode cX11_copy 151 = .ok (.bipush 40, 2) := by decide +kernel
theorem dX11_copy_153 : decode cX11_copy 153 = .ok (.iload_n 3, 1) := by decide +kernel
theorem dX11_copy_154 : decode cX11_copy 154 = .ok (.imul, 1) := by decide +kernel
theorem dX11_copy_155 : decode cX11_copy 155 = .ok (.iload 4, 2) := by decide +kernel
theorem dX11_copy_157 : decode cX11_copy 157 = .ok (.iadd, 1) := by decide +kernel
theorem dX11_copy_158 : decode cX11_copy 158 = .ok (.iload 6, 2) := by decide +kernel
theorem dX11_copy_160 : decode cX11_copy 160 = .ok (.iadd, 1) := by decide +kernel
theorem dX11_copy_161 : decode cX11_copy 161 = .ok (.aload_n 0, 1) := by decide +kernel
theorem dX11_copy_162 : decode cX11_copy 162 = .ok (.getfield 351, 3) := by decide +kernel
theorem dX11_copy_165 : decode cX11_copy 165 = .ok (.iload 6, 2) := by decide +kernel
theorem dX11_copy_167 : decode cX11_copy 167 = .ok (.iaload, 1) := by decide +kernel
theorem dX11_copy_168 : decode cX11_copy 168 = .ok (.iastore, 1) := by decide +kernel
theorem dX11_copy_169 : decode cX11_copy 169 = .ok (.iinc 6 1, 3) := by decide +kernel
theorem dX11_copy_172 : decode cX11_copy 172 = .ok (.goto (-32), 3) := by decide +kernel
theorem dX11_copy_175 : decode cX11_copy 175 = .ok (.iload 5, 2) := by decide +kernel
theorem dX11_copy_177 : decode cX11_copy 177 = .ok (.ireturn, 1) := by decide +kernel
theorem dX11_newsRow_0 : decode cX11_newsRow 0 = .ok (.iload_n 1, 1) := by decide +kernel
theorem dX11_newsRow_1 : decode cX11_newsRow 1 = .ok (.invokestatic 139, 3) := by decide +kernel
theorem dX11_newsRow_4 : decode cX11_newsRow 4 = .ok (.ifCond .eq 35, 3) := by decide +kernel
theorem dX11_newsRow_7 : decode cX11_newsRow 7 = .ok (.iload_n 2, 1) := by decide +kernel
theorem dX11_newsRow_8 : decode cX11_newsRow 8 = .ok (.invokestatic 424, 3) := by decide +kernel
theorem dX11_newsRow_11 : decode cX11_newsRow 11 = .ok (.ifCond .eq 28, 3) := by decide +kernel
theorem dX11_newsRow_14 : decode cX11_newsRow 14 = .ok (.iload_n 3, 1) := by decide +kernel
theorem dX11_newsRow_15 : decode cX11_newsRow 15 = .ok (.i2l, 1) := by decide +kernel
theorem dX11_newsRow_16 : decode cX11_newsRow 16 = .ok (.lconst 0, 1) := by decide +kernel
theorem dX11_newsRow_17 : decode cX11_newsRow 17 = .ok (.ldc2_w 123, 3) := by decide +kernel
theorem dX11_newsRow_20 : decode cX11_newsRow 20 = .ok (.invokestatic 18, 3) := by decide +kernel
theorem dX11_newsRow_23 : decode cX11_newsRow 23 = .ok (.ifCond .eq 16, 3) := by decide +kernel
theorem dX11_newsRow_26 : decode cX11_newsRow 26 = .ok (.iload 5, 2) := by decide +kernel
theorem dX11_newsRow_28 : decode cX11_newsRow 28 = .ok (.i2l, 1) := by decide +kernel
theorem dX11_newsRow_29 : decode cX11_newsRow 29 = .ok (.lconst 0, 1) := by decide +kernel
theorem dX11_newsRow_30 : decode cX11_newsRow 30 = .ok (.ldc2_w 432, 3) := by decide +kernel
theorem dX11_newsRow_33 : decode cX11_newsRow 33 = .ok (.invokestatic 18, 3) := by decide +kernel
theorem dX11_newsRow_36 : decode cX11_newsRow 36 = .ok (.ifCond .ne 6, 3) := by decide +kernel
theorem dX11_newsRow_39 : decode cX11_newsRow 39 = .ok (.bipush (-2), 2) := by decide +kernel
theorem dX11_newsRow_41 : decode cX11_newsRow 41 = .ok (.ireturn, 1) := by decide +kernel
theorem dX11_newsRow_42 : decode cX11_newsRow 42 = .ok (.aload_n 0, 1) := by decide +kernel
theorem dX11_newsRow_43 : decode cX11_newsRow 43 = .ok (.getfield 342, 3) := by decide +kernel
theorem dX11_newsRow_46 : decode cX11_newsRow 46 = .ok (.iload_n 2, 1) := by decide +kernel
theorem dX11_newsRow_47 : decode cX11_newsRow 47 = .ok (.iaload, 1) := by decide +kernel
theorem dX11_newsRow_48 : decode cX11_newsRow 48 = .ok (.ifCond .lt 16, 3) := by decide +kernel
theorem dX11_newsRow_51 : decode cX11_newsRow 51 = .ok (.aload_n 0, 1) := by decide +kernel
theorem dX11_newsRow_52 : decode cX11_newsRow 52 = .ok (.getfield 342, 3) := by decide +kernel
theorem dX11_newsRow_55 : decode cX11_newsRow 55 = .ok (.iload_n 2, 1) := by decide +kernel
theorem dX11_newsRow_56 : decode cX11_newsRow 56 = .ok (.iaload, 1) := by decide +kernel
theorem dX11_newsRow_57 : decode cX11_newsRow 57 = .ok (.iload_n 3, 1) := by decide +kernel
theorem dX11_newsRow_58 : decode cX11_newsRow 58 = .ok (.if_icmp .eq 6, 3) := by decide +kernel
theorem dX11_newsRow_61 : decode cX11_newsRow 61 = .ok (.bipush (-13), 2) := by decide +kernel
theorem dX11_newsRow_63 : decode cX11_newsRow 63 = .ok (.ireturn, 1) := by decide +kernel
theorem dX11_newsRow_64 : decode cX11_newsRow 64 = .ok (.aload_n 0, 1) := by decide +kernel
theorem dX11_newsRow_65 : decode cX11_newsRow 65 = .ok (.getfield 342, 3) := by decide +kernel
theorem dX11_newsRow_68 : decode cX11_newsRow 68 = .ok (.iload_n 2, 1) := by decide +kernel
theorem dX11_newsRow_69 : decode cX11_newsRow 69 = .ok (.iaload, 1) := by decide +kernel
theorem dX11_newsRow_70 : decode cX11_newsRow 70 = .ok (.ifCond .ge 6, 3) := by decide +kernel
theorem dX11_newsRow_73 : decode cX11_newsRow 73 = .ok (.bipush (-11), 2) := by decide +kernel
theorem dX11_newsRow_75 : decode cX11_newsRow 75 = .ok (.ireturn, 1) := by decide +kernel
theorem dX11_newsRow_76 : decode cX11_newsRow 76 = .ok (.iconst 0, 1) := by decide +kernel
theorem dX11_newsRow_77 : decode cX11_newsRow 77 = .ok (.istore 6, 2) := by decide +kernel
theorem dX11_newsRow_79 : decode cX11_newsRow 79 = .ok (.iconst 0, 1) := by decide +kernel
theorem dX11_newsRow_80 : decode cX11_newsRow 80 = .ok (.istore 7, 2) := by decide +kernel
theorem dX11_newsRow_82 : decode cX11_newsRow 82 = .ok (.iload 7, 2) := by decide +kernel
theorem dX11_newsRow_84 : decode cX11_newsRow 84 = .ok (.iload 5, 2) := by decide +kernel
theorem dX11_newsRow_86 : decode cX11_newsRow 86 = .ok (.if_icmp .ge 111, 3) := by decide +kernel
theorem dX11_newsRow_89 : decode cX11_newsRow 89 = .ok (.iload 4, 2) := by decide +kernel
theorem dX11_newsRow_91 : decode cX11_newsRow 91 = .ok (.i2l, 1) := by decide +kernel
theorem dX11_newsRow_92 : decode cX11_newsRow 92 = .ok (.ldc2_w 434, 3) := by decide +kernel
theorem dX11_newsRow_95 : decode cX11_newsRow 95 = .ok (.iload 7, 2) := by decide +kernel
theorem dX11_newsRow_97 : decode cX11_newsRow 97 = .ok (.i2l, 1) := by decide +kernel
theorem dX11_newsRow_98 : decode cX11_newsRow 98 = .ok (.lmul, 1) := by decide +kernel
theorem dX11_newsRow_99 : decode cX11_newsRow 99 = .ok (.ladd, 1) := by decide +kernel
theorem dX11_newsRow_100 : decode cX11_newsRow 100 = .ok (.lstore 8, 2) := by decide +kernel
theorem dX11_newsRow_102 : decode cX11_newsRow 102 = .ok (.lload 8, 2) := by decide +kernel
theorem dX11_newsRow_104 : decode cX11_newsRow 104 = .ok (.lconst 0, 1) := by decide +kernel
theorem dX11_newsRow_105 : decode cX11_newsRow 105 = .ok (.lcmp, 1) := by decide +kernel
theorem dX11_newsRow_106 : decode cX11_newsRow 106 = .ok (.ifCond .lt 20, 3) := by decide +kernel
theorem dX11_newsRow_109 : decode cX11_newsRow 109 = .ok (.lload 8, 2) := by decide +kernel
theorem dX11_newsRow_111 : decode cX11_newsRow 111 = .ok (.ldc2_w 422, 3) := by decide +kernel
theorem dX11_newsRow_114 : decode cX11_newsRow 114 = .ok (.ladd, 1) := by decide +kernel
theorem dX11_newsRow_115 : decode cX11_newsRow 115 = .ok (.aload_n 0, 1) := by decide +kernel
theorem dX11_newsRow_116 : decode cX11_newsRow 116 = .ok (.getfield 345, 3) := by decide +kernel
theorem dX11_newsRow_119 : decode cX11_newsRow 119 = .ok (.iload_n 2, 1) := by decide +kernel
theorem dX11_newsRow_120 : decode cX11_newsRow 120 = .ok (.iaload, 1) := by decide +kernel
theorem dX11_newsRow_121 : decode cX11_newsRow 121 = .ok (.i2l, 1) := by decide +kernel
theorem dX11_newsRow_122 : decode cX11_newsRow 122 = .ok (.lcmp, 1) := by decide +kernel
theorem dX11_newsRow_123 : decode cX11_newsRow 123 = .ok (.ifCond .lt 6, 3) := by decide +kernel
theorem dX11_newsRow_126 : decode cX11_newsRow 126 = .ok (.bipush (-12), 2) := by decide +kernel
theorem dX11_newsRow_128 : decode cX11_newsRow 128 = .ok (.ireturn, 1) := by decide +kernel
theorem dX11_newsRow_129 : decode cX11_newsRow 129 = .ok (.bipush 40, 2) := by decide +kernel
theorem dX11_newsRow_131 : decode cX11_newsRow 131 = .ok (.iload_n 2, 1) := by decide +kernel
theorem dX11_newsRow_132 : decode cX11_newsRow 132 = .ok (.imul, 1) := by decide +kernel
theorem dX11_newsRow_133 : decode cX11_newsRow 133 = .ok (.lload 8, 2) := by decide +kernel
theorem dX11_newsRow_135 : decode cX11_newsRow 135 = .ok (.l2i, 1) := by decide +kernel
theorem dX11_newsRow_136 : decode cX11_newsRow 136 = .ok (.iadd, 1) := by decide +kernel
theorem dX11_newsRow_137 : decode cX11_newsRow 137 = .ok (.istore 10, 2) := by decide +kernel
theorem dX11_newsRow_139 : decode cX11_newsRow 139 = .ok (.iload 6, 2) := by decide +kernel
theorem dX11_newsRow_141 : decode cX11_newsRow 141 = .ok (.aload_n 0, 1) := by decide +kernel
theorem dX11_newsRow_142 : decode cX11_newsRow 142 = .ok (.iload_n 1, 1) := by decide +kernel
theorem dX11_newsRow_143 : decode cX11_newsRow 143 = .ok (.aload_n 0, 1) := by decide +kernel
theorem dX11_newsRow_144 : decode cX11_newsRow 144 = .ok (.getfield 348, 3) := by decide +kernel
theorem dX11_newsRow_147 : decode cX11_newsRow 147 = .ok (.iload 10, 2) := by decide +kernel
theorem dX11_newsRow_149 : decode cX11_newsRow 149 = .ok (.iaload, 1) := by decide +kernel
theorem dX11_newsRow_150 : decode cX11_newsRow 150 = .ok (.aload_n 0, 1) := by decide +kernel
theorem dX11_newsRow_151 : decode cX11_newsRow 151 = .ok (.getfield 348, 3) := by decide +kernel
theorem dX11_newsRow_154 : decode cX11_newsRow 154 = .ok (.iload 10, 2) := by decide +kernel
theorem dX11_newsRow_156 : decode cX11_newsRow 156 = .ok (.iconst 1, 1) := by decide +kernel
theorem dX11_newsRow_157 : decode cX11_newsRow 157 = .ok (.iadd, 1) := by decide +kernel
theorem dX11_newsRow_158 : decode cX11_newsRow 158 = .ok (.iaload, 1) := by decide +kernel
theorem dX11_newsRow_159 : decode cX11_newsRow 159 = .ok (.aload_n 0, 1) := by decide +kernel
theorem dX11_newsRow_160 : decode cX11_newsRow 160 = .ok (.getfield 348, 3) := by decide +kernel
theorem dX11_newsRow_163 : decode cX11_newsRow 163 = .ok (.iload 10, 2) := by decide +kernel
theorem dX11_newsRow_165 : decode cX11_newsRow 165 = .ok (.iconst 2, 1) := by decide +kernel
theorem dX11_newsRow_166 : decode cX11_newsRow 166 = .ok (.iadd, 1) := by decide +kernel
theorem dX11_newsRow_167 : decode cX11_newsRow 167 = .ok (.iaload, 1) := by decide +kernel
theorem dX11_newsRow_168 : decode cX11_newsRow 168 = .ok (.aload_n 0, 1) := by decide +kernel
theorem dX11_newsRow_169 : decode cX11_newsRow 169 = .ok (.getfield 348, 3) := by decide +kernel
theorem dX11_newsRow_172 : decode cX11_newsRow 172 = .ok (.iload 10, 2) := by decide +kernel
theorem dX11_newsRow_174 : decode cX11_newsRow 174 = .ok (.iconst 3, 1) := by decide +kernel
theorem dX11_newsRow_175 : decode cX11_newsRow 175 = .ok (.iadd, 1) := by decide +kernel
theorem dX11_newsRow_176 : decode cX11_newsRow 176 = .ok (.iaload, 1) := by decide +kernel
theorem dX11_newsRow_177 : decode cX11_newsRow 177 = .ok (.invokevirtual 436, 3) := by decide +kernel
theorem dX11_newsRow_180 : decode cX11_newsRow 180 = .ok (.ifCond .lt 7, 3) := by decide +kernel
theorem dX11_newsRow_183 : decode cX11_newsRow 183 = .ok (.iconst 1, 1) := by decide +kernel
theorem dX11_newsRow_184 : decode cX11_newsRow 184 = .ok (.goto 4, 3) := by decide +kernel
theorem dX11_newsRow_187 : decode cX11_newsRow 187 = .ok (.iconst 0, 1) := by decide +kernel
theorem dX11_newsRow_188 : decode cX11_newsRow 188 = .ok (.iadd, 1) := by decide +kernel
theorem dX11_newsRow_189 : decode cX11_newsRow 189 = .ok (.istore 6, 2) := by decide +kernel
theorem dX11_newsRow_191 : decode cX11_newsRow 191 = .ok (.iinc 7 1, 3) := by decide +kernel
theorem dX11_newsRow_194 : decode cX11_newsRow 194 = .ok (.goto (-112), 3) := by decide +kernel
theorem dX11_newsRow_197 : decode cX11_newsRow 197 = .ok (.iload 6, 2) := by decide +kernel
theorem dX11_newsRow_199 : decode cX11_newsRow 199 = .ok (.ireturn, 1) := by decide +kernel
theorem dX11_taken_0 : decode cX11_taken 0 = .ok (.iload_n 2, 1) := by decide +kernel
theorem dX11_taken_1 : decode cX11_taken 1 = .ok (.i2l, 1) := by decide +kernel
theorem dX11_taken_2 : decode cX11_taken 2 = .ok (.lconst 0, 1) := by decide +kernel
theorem dX11_taken_3 : decode cX11_taken 3 = .ok (.ldc2_w 49, 3) := by decide +kernel
theorem dX11_taken_6 : decode cX11_taken 6 = .ok (.invokestatic 18, 3) := by decide +kernel
theorem dX11_taken_9 : decode cX11_taken 9 = .ok (.ifCond .ne 6, 3) := by decide +kernel
theorem dX11_taken_12 : decode cX11_taken 12 = .ok (.bipush (-2), 2) := by decide +kernel
theorem dX11_taken_14 : decode cX11_taken 14 = .ok (.ireturn, 1) := by decide +kernel
theorem dX11_taken_15 : decode cX11_taken 15 = .ok (.aload_n 0, 1) := by decide +kernel
theorem dX11_taken_16 : decode cX11_taken 16 = .ok (.iload_n 1, 1) := by decide +kernel
theorem dX11_taken_17 : decode cX11_taken 17 = .ok (.invokevirtual 71, 3) := by decide +kernel
theorem dX11_taken_20 : decode cX11_taken 20 = .ok (.ifCond .ne 6, 3) := by decide +kernel
theorem dX11_taken_23 : decode cX11_taken 23 = .ok (.bipush (-11), 2) := by decide +kernel
theorem dX11_taken_25 : decode cX11_taken 25 = .ok (.ireturn, 1) := by decide +kernel
theorem dX11_taken_26 : decode cX11_taken 26 = .ok (.aload_n 0, 1) := by decide +kernel
theorem dX11_taken_27 : decode cX11_taken 27 = .ok (.getfield 56, 3) := by decide +kernel
theorem dX11_taken_30 : decode cX11_taken 30 = .ok (.iload_n 1, 1) := by decide +kernel
theorem dX11_taken_31 : decode cX11_taken 31 = .ok (.iaload, 1) := by decide +kernel
theorem dX11_taken_32 : decode cX11_taken 32 = .ok (.istore_n 3, 1) := by decide +kernel
theorem dX11_taken_33 : decode cX11_taken 33 = .ok (.iload_n 2, 1) := by decide +kernel
theorem dX11_taken_34 : decode cX11_taken 34 = .ok (.ifCond .eq 28, 3) := by decide +kernel
theorem dX11_taken_37 : decode cX11_taken 37 = .ok (.iload_n 3, 1) := by decide +kernel
theorem dX11_taken_38 : decode cX11_taken 38 = .ok (.iload_n 2, 1) := by decide +kernel
theorem dX11_taken_39 : decode cX11_taken 39 = .ok (.if_icmp .eq 23, 3) := by decide +kernel
theorem dX11_taken_42 : decode cX11_taken 42 = .ok (.iload_n 2, 1) := by decide +kernel
theorem dX11_taken_43 : decode cX11_taken 43 = .ok (.iconst 1, 1) := by decide +kernel
theorem dX11_taken_44 : decode cX11_taken 44 = .ok (.if_icmp .ne 8, 3) := by decide +kernel
theorem dX11_taken_47 : decode cX11_taken 47 = .ok (.iload_n 3, 1) := by decide +kernel
theorem dX11_taken_48 : decode cX11_taken 48 = .ok (.iconst 3, 1) := by decide +kernel
theorem dX11_taken_49 : decode cX11_taken 49 = .ok (.if_icmp .eq 13, 3) := by decide +kernel
theorem dX11_taken_52 : decode cX11_taken 52 = .ok (.iload_n 2, 1) := by decide +kernel
theorem dX11_taken_53 : decode cX11_taken 53 = .ok (.iconst 2, 1) := by decide +kernel
theorem dX11_taken_54 : decode cX11_taken 54 = .ok (.if_icmp .ne 12, 3) := by decide +kernel
theorem dX11_taken_57 : decode cX11_taken 57 = .ok (.iload_n 3, 1) := by decide +kernel
theorem dX11_taken_58 : decode cX11_taken 58 = .ok (.iconst 4, 1) := by decide +kernel
theorem dX11_taken_59 : decode cX11_taken 59 = .ok (.if_icmp .ne 7, 3) := by decide +kernel
theorem dX11_taken_62 : decode cX11_taken 62 = .ok (.iconst 1, 1) := by decide +kernel
theorem dX11_taken_63 : decode cX11_taken 63 = .ok (.goto 4, 3) := by decide +kernel
theorem dX11_taken_66 : decode cX11_taken 66 = .ok (.iconst 0, 1) := by decide +kernel
theorem dX11_taken_67 : decode cX11_taken 67 = .ok (.istore 4, 2) := by decide +kernel
theorem dX11_taken_69 : decode cX11_taken 69 = .ok (.iload 4, 2) := by decide +kernel
theorem dX11_taken_71 : decode cX11_taken 71 = .ok (.ifCond .eq 12, 3) := by decide +kernel
theorem dX11_taken_74 : decode cX11_taken 74 = .ok (.aload_n 0, 1) := by decide +kernel
theorem dX11_taken_75 : decode cX11_taken 75 = .ok (.getfield 65, 3) := by decide +kernel
theorem dX11_taken_78 : decode cX11_taken 78 = .ok (.iload_n 1, 1) := by decide +kernel
theorem dX11_taken_79 : decode cX11_taken 79 = .ok (.iaload, 1) := by decide +kernel
theorem dX11_taken_80 : decode cX11_taken 80 = .ok (.goto 5, 3) := by decide +kernel
theorem dX11_taken_83 : decode cX11_taken 83 = .ok (.bipush (-13), 2) := by decide +kernel
theorem dX11_taken_85 : decode cX11_taken 85 = .ok (.ireturn, 1) := by decide +kernel
