theorem dX0_init_0 : decode cX0_init 0 = .ok (.aload_n 0, 1) := by decide +kernel
theorem dX0_init_1 : decode cX0_init 1 = .ok (.invokespecial 3, 3) := by decide +kernel
theorem dX0_init_4 : decode cX0_init 4 = .ok (.aload_n 0, 1) := by decide +kernel
theorem dX0_init_5 : decode cX0_init 5 = .ok (.sipush 160, 3) := by decide +kernel
theorem dX0_init_8 : decode cX0_init 8 = .ok (.newarray .byte, 2) := by decide +kernel
theorem dX0_init_10 : decode cX0_init 10 = .ok (.putfield 9, 3) := by decide +kernel
theorem dX0_init_13 : decode cX0_init 13 = .ok (.aload_n 0, 1) := by decide +kernel
theorem dX0_init_14 : decode cX0_init 14 = .ok (.bipush 6, 2) := by decide +kernel
theorem dX0_init_16 : decode cX0_init 16 = .ok (.sipush 160, 3) := by decide +kernel
theorem dX0_init_19 : decode cX0_init 19 = .ok (.multianewarray 15 2, 4) := by decide +kernel
theorem dX0_init_23 : decode cX0_init 23 = .ok (.putfield 17, 3) := by decide +kernel
theorem dX0_init_26 : decode cX0_init 26 = .ok (.aload_n 0, 1) := by decide +kernel
theorem dX0_init_27 : decode cX0_init 27 = .ok (.bipush 6, 2) := by decide +kernel
theorem dX0_init_29 : decode cX0_init 29 = .ok (.newarray .int, 2) := by decide +kernel
theorem dX0_init_31 : decode cX0_init 31 = .ok (.putfield 20, 3) := by decide +kernel
theorem dX0_init_34 : decode cX0_init 34 = .ok (.aload_n 0, 1) := by decide +kernel
theorem dX0_init_35 : decode cX0_init 35 = .ok (.bipush 6, 2) := by decide +kernel
theorem dX0_init_37 : decode cX0_init 37 = .ok (.newarray .int, 2) := by decide +kernel
theorem dX0_init_39 : decode cX0_init 39 = .ok (.putfield 24, 3) := by decide +kernel
theorem dX0_init_42 : decode cX0_init 42 = .ok (.aload_n 0, 1) := by decide +kernel
theorem dX0_init_43 : decode cX0_init 43 = .ok (.sipush 160, 3) := by decide +kernel
theorem dX0_init_46 : decode cX0_init 46 = .ok (.newarray .int, 2) := by decide +kernel
theorem dX0_init_48 : decode cX0_init 48 = .ok (.putfield 27, 3) := by decide +kernel
theorem dX0_init_51 : decode cX0_init 51 = .ok (.aload_n 0, 1) := by decide +kernel
theorem dX0_init_52 : decode cX0_init 52 = .ok (.new 30, 3) := by decide +kernel
theorem dX0_init_55 : decode cX0_init 55 = .ok (.dup, 1) := by decide +kernel
theorem dX0_init_56 : decode cX0_init 56 = .ok (.aload_n 0, 1) := by decide +kernel
theorem dX0_init_57 : decode cX0_init 57 = .ok (.getfield 9, 3) := by decide +kernel
theorem dX0_init_60 : decode cX0_init 60 = .ok (.invokespecial 32, 3) := by decide +kernel
theorem dX0_init_63 : decode cX0_init 63 = .ok (.putfield 35, 3) := by decide +kernel
theorem dX0_init_66 : decode cX0_init 66 = .ok (.return_, 1) := by decide +kernel
theorem dX0_write_0 : decode cX0_write 0 = .ok (.iconst 0, 1) := by decide +kernel
theorem dX0_write_1 : decode cX0_write 1 = .ok (.istore_n 2, 1) := by decide +kernel
theorem dX0_write_2 : decode cX0_write 2 = .ok (.iload_n 2, 1) := by decide +kernel
theorem dX0_write_3 : decode cX0_write 3 = .ok (.aload_n 1, 1) := by decide +kernel
theorem dX0_write_4 : decode cX0_write 4 = .ok (.invokevirtual 39, 3) := by decide +kernel
theorem dX0_write_7 : decode cX0_write 7 = .ok (.if_icmp .ge 41, 3) := by decide +kernel
theorem dX0_write_10 : decode cX0_write 10 = .ok (.aload_n 0, 1) := by decide +kernel
theorem dX0_write_11 : decode cX0_write 11 = .ok (.getfield 45, 3) := by decide +kernel
theorem dX0_write_14 : decode cX0_write 14 = .ok (.sipush 160, 3) := by decide +kernel
theorem dX0_write_17 : decode cX0_write 17 = .ok (.if_icmp .ge 31, 3) := by decide +kernel
theorem dX0_write_20 : decode cX0_write 20 = .ok (.aload_n 0, 1) := by decide +kernel
theorem dX0_write_21 : decode cX0_write 21 = .ok (.getfield 9, 3) := by decide +kernel
theorem dX0_write_24 : decode cX0_write 24 = .ok (.aload_n 0, 1) := by decide +kernel
theorem dX0_write_25 : decode cX0_write 25 = .ok (.dup, 1) := by decide +kernel
theorem dX0_write_26 : decode cX0_write 26 = .ok (.getfield 45, 3) := by decide +kernel
theorem dX0_write_29 : decode cX0_write 29 = .ok (.dup_x1, 1) := by decide +kernel
theorem dX0_write_30 : decode cX0_write 30 = .ok (.iconst 1, 1) := by decide +kernel
theorem dX0_write_31 : decode cX0_write 31 = .ok (.iadd, 1) := by decide +kernel
theorem dX0_write_32 : decode cX0_write 32 = .ok (.putfield 45, 3) := by decide +kernel
theorem dX0_write_35 : decode cX0_write 35 = .ok (.aload_n 1, 1) := by decide +kernel
theorem dX0_write_36 : decode cX0_write 36 = .ok (.iload_n 2, 1) := by decide +kernel
theorem dX0_write_37 : decode cX0_write 37 = .ok (.invokevirtual 49, 3) := by decide +kernel
theorem dX0_write_40 : decode cX0_write 40 = .ok (.i2b, 1) := by decide +kernel
theorem dX0_write_41 : decode cX0_write 41 = .ok (.bastore, 1) := by decide +kernel
theorem dX0_write_42 : decode cX0_write 42 = .ok (.iinc 2 1, 3) := by decide +kernel
theorem dX0_write_45 : decode cX0_write 45 = .ok (.goto (-43), 3) := by decide +kernel
theorem dX0_write_48 : decode cX0_write 48 = .ok (.return_, 1) := by decide +kernel
theorem dX0_append_0 : decode cX0_append 0 = .ok (.aload_n 0, 1) := by decide +kernel
theorem dX0_append_1 : decode cX0_append 1 = .ok (.getfield 45, 3) := by decide +kernel
theorem dX0_append_4 : decode cX0_append 4 = .ok (.iload_n 1, 1) := by decide +kernel
theorem dX0_append_5 : decode cX0_append 5 = .ok (.iadd, 1) := by decide +kernel
theorem dX0_append_6 : decode cX0_append 6 = .ok (.sipush 160, 3) := by decide +kernel
theorem dX0_append_9 : decode cX0_append 9 = .ok (.if_icmp .le 6, 3) := by decide +kernel
theorem dX0_append_12 : decode cX0_append 12 = .ok (.bipush (-4), 2) := by decide +kernel
theorem dX0_append_14 : decode cX0_append 14 = .ok (.ireturn, 1) := by decide +kernel
theorem dX0_append_15 : decode cX0_append 15 = .ok (.iconst 0, 1) := by decide +kernel
theorem dX0_append_16 : decode cX0_append 16 = .ok (.istore 4, 2) := by decide +kernel
theorem dX0_append_18 : decode cX0_append 18 = .ok (.iload 4, 2) := by decide +kernel
theorem dX0_append_20 : decode cX0_append 20 = .ok (.iload_n 1, 1) := by decide +kernel
theorem dX0_append_21 : decode cX0_append 21 = .ok (.if_icmp .ge 34, 3) := by decide +kernel
theorem dX0_append_24 : decode cX0_append 24 = .ok (.aload_n 0, 1) := by decide +kernel
theorem dX0_append_25 : decode cX0_append 25 = .ok (.getfield 9, 3) := by decide +kernel
theorem dX0_append_28 : decode cX0_append 28 = .ok (.aload_n 0, 1) := by decide +kernel
theorem dX0_append_29 : decode cX0_append 29 = .ok (.dup, 1) := by decide +kernel
theorem dX0_append_30 : decode cX0_append 30 = .ok (.getfield 45, 3) := by decide +kernel
theorem dX0_append_33 : decode cX0_append 33 = .ok (.dup_x1, 1) := by decide +kernel
theorem dX0_append_34 : decode cX0_append 34 = .ok (.iconst 1, 1) := by decide +kernel
theorem dX0_append_35 : decode cX0_append 35 = .ok (.iadd, 1) := by decide +kernel
theorem dX0_append_36 : decode cX0_append 36 = .ok (.putfield 45, 3) := by decide +kernel
theorem dX0_append_39 : decode cX0_append 39 = .ok (.lload_n 2, 1) := by decide +kernel
theorem dX0_append_40 : decode cX0_append 40 = .ok (.bipush 8, 2) := by decide +kernel
theorem dX0_append_42 : decode cX0_append 42 = .ok (.iload 4, 2) := by decide +kernel
theorem dX0_append_44 : decode cX0_append 44 = .ok (.imul, 1) := by decide +kernel
theorem dX0_append_45 : decode cX0_append 45 = .ok (.lshr, 1) := by decide +kernel
theorem dX0_append_46 : decode cX0_append 46 = .ok (.l2i, 1) := by decide +kernel
theorem dX0_append_47 : decode cX0_append 47 = .ok (.i2b, 1) := by decide +kernel
theorem dX0_append_48 : decode cX0_append 48 = .ok (.bastore, 1) := by decide +kernel
theorem dX0_append_49 : decode cX0_append 49 = .ok (.iinc 4 1, 3) := by decide +kernel
theorem dX0_append_52 : decode cX0_append 52 = .ok (.goto (-34), 3) := by decide +kernel
theorem dX0_append_55 : decode cX0_append 55 = .ok (.aload_n 0, 1) := by decide +kernel
theorem dX0_append_56 : decode cX0_append 56 = .ok (.getfield 45, 3) := by decide +kernel
theorem dX0_append_59 : decode cX0_append 59 = .ok (.ireturn, 1) := by decide +kernel
theorem dX0_learn_0 : decode cX0_learn 0 = .ok (.aload_n 0, 1) := by decide +kernel
theorem dX0_learn_1 : decode cX0_learn 1 = .ok (.getfield 53, 3) := by decide +kernel
theorem dX0_learn_4 : decode cX0_learn 4 = .ok (.bipush 6, 2) := by decide +kernel
theorem dX0_learn_6 : decode cX0_learn 6 = .ok (.if_icmp .lt 6, 3) := by decide +kernel
theorem dX0_learn_9 : decode cX0_learn 9 = .ok (.bipush (-4), 2) := by decide +kernel
theorem dX0_learn_11 : decode cX0_learn 11 = .ok (.ireturn, 1) := by decide +kernel
theorem dX0_learn_12 : decode cX0_learn 12 = .ok (.aload_n 0, 1) := by decide +kernel
theorem dX0_learn_13 : decode cX0_learn 13 = .ok (.getfield 35, 3) := by decide +kernel
theorem dX0_learn_16 : decode cX0_learn 16 = .ok (.aload_n 0, 1) := by decide +kernel
theorem dX0_learn_17 : decode cX0_learn 17 = .ok (.getfield 45, 3) := by decide +kernel
theorem dX0_learn_20 : decode cX0_learn 20 = .ok (.aload_n 0, 1) := by decide +kernel
theorem dX0_learn_21 : decode cX0_learn 21 = .ok (.getfield 17, 3) := by decide +kernel
theorem dX0_learn_24 : decode cX0_learn 24 = .ok (.aload_n 0, 1) := by decide +kernel
theorem dX0_learn_25 : decode cX0_learn 25 = .ok (.getfield 53, 3) := by decide +kernel
theorem dX0_learn_28 : decode cX0_learn 28 = .ok (.aaload, 1) := by decide +kernel
theorem dX0_learn_29 : decode cX0_learn 29 = .ok (.invokevirtual 56, 3) := by decide +kernel
theorem dX0_learn_32 : decode cX0_learn 32 = .ok (.istore_n 1, 1) := by decide +kernel
theorem dX0_learn_33 : decode cX0_learn 33 = .ok (.aload_n 0, 1) := by decide +kernel
theorem dX0_learn_34 : decode cX0_learn 34 = .ok (.iconst 0, 1) := by decide +kernel
theorem dX0_learn_35 : decode cX0_learn 35 = .ok (.putfield 45, 3) := by decide +kernel
theorem dX0_learn_38 : decode cX0_learn 38 = .ok (.iload_n 1, 1) := by decide +kernel
theorem dX0_learn_39 : decode cX0_learn 39 = .ok (.iconst (-1), 1) := by decide +kernel
theorem dX0_learn_40 : decode cX0_learn 40 = .ok (.if_icmp .eq 8, 3) := by decide +kernel
theorem dX0_learn_43 : decode cX0_learn 43 = .ok (.bipush (-100), 2) := by decide +kernel
theorem dX0_learn_45 : decode cX0_learn 45 = .ok (.iload_n 1, 1) := by decide +kernel
theorem dX0_learn_46 : decode cX0_learn 46 = .ok (.isub, 1) := by decide +kernel
theorem dX0_learn_47 : decode cX0_learn 47 = .ok (.ireturn, 1) := by decide +kernel
theorem dX0_learn_48 : decode cX0_learn 48 = .ok (.aload_n 0, 1) := by decide +kernel
theorem dX0_learn_49 : decode cX0_learn 49 = .ok (.getfield 20, 3) := by decide +kernel
theorem dX0_learn_52 : decode cX0_learn 52 = .ok (.aload_n 0, 1) := by decide +kernel
theorem dX0_learn_53 : decode cX0_learn 53 = .ok (.getfield 53, 3) := by decide +kernel
theorem dX0_learn_56 : decode cX0_learn 56 = .ok (.aload_n 0, 1) := by decide +kernel
theorem dX0_learn_57 : decode cX0_learn 57 = .ok (.getfield 35, 3) := by decide +kernel
theorem dX0_learn_60 : decode cX0_learn 60 = .ok (.getfield 60, 3) := by decide +kernel
theorem dX0_learn_63 : decode cX0_learn 63 = .ok (.iastore, 1) := by decide +kernel
theorem dX0_learn_64 : decode cX0_learn 64 = .ok (.aload_n 0, 1) := by decide +kernel
theorem dX0_learn_65 : decode cX0_learn 65 = .ok (.getfield 24, 3) := by decide +kernel
theorem dX0_learn_68 : decode cX0_learn 68 = .ok (.aload_n 0, 1) := by decide +kernel
theorem dX0_learn_69 : decode cX0_learn 69 = .ok (.getfield 53, 3) := by decide +kernel
theorem dX0_learn_72 : decode cX0_learn 72 = .ok (.aload_n 0, 1) := by decide +kernel
theorem dX0_learn_73 : decode cX0_learn 73 = .ok (.getfield 35, 3) := by decide +kernel
theorem dX0_learn_76 : decode cX0_learn 76 = .ok (.getfield 62, 3) := by decide +kernel
theorem dX0_learn_79 : decode cX0_learn 79 = .ok (.iastore, 1) := by decide +kernel
theorem dX0_learn_80 : decode cX0_learn 80 = .ok (.aload_n 0, 1) := by decide +kernel
theorem dX0_learn_81 : decode cX0_learn 81 = .ok (.dup, 1) := by decide +kernel
theorem dX0_learn_82 : decode cX0_learn 82 = .ok (.getfield 53, 3) := by decide +kernel
theorem dX0_learn_85 : decode cX0_learn 85 = .ok (.dup_x1, 1) := by decide +kernel
theorem dX0_learn_86 : decode cX0_learn 86 = .ok (.iconst 1, 1) := by decide +kernel
theorem dX0_learn_87 : decode cX0_learn 87 = .ok (.iadd, 1) := by decide +kernel
theorem dX0_learn_88 : decode cX0_learn 88 = .ok (.putfield 53, 3) := by decide +kernel
theorem dX0_learn_91 : decode cX0_learn 91 = .ok (.ireturn, 1) := by decide +kernel
theorem dX0_worth_0 : decode cX0_worth 0 = .ok (.aload_n 0, 1) := by decide +kernel
theorem dX0_worth_1 : decode cX0_worth 1 = .ok (.getfield 17, 3) := by decide +kernel
theorem dX0_worth_4 : decode cX0_worth 4 = .ok (.aload_n 0, 1) := by decide +kernel
theorem dX0_worth_5 : decode cX0_worth 5 = .ok (.getfield 64, 3) := by decide +kernel
theorem dX0_worth_8 : decode cX0_worth 8 = .ok (.aaload, 1) := by decide +kernel
theorem dX0_worth_9 : decode cX0_worth 9 = .ok (.astore_n 3, 1) := by decide +kernel
theorem dX0_worth_10 : decode cX0_worth 10 = .ok (.iload_n 1, 1) := by decide +kernel
theorem dX0_worth_11 : decode cX0_worth 11 = .ok (.ifCond .ne 7, 3) := by decide +kernel
theorem dX0_worth_14 : decode cX0_worth 14 = .ok (.iconst 0, 1) := by decide +kernel
theorem dX0_worth_15 : decode cX0_worth 15 = .ok (.goto 12, 3) := by decide +kernel
theorem dX0_worth_18 : decode cX0_worth 18 = .ok (.aload_n 0, 1) := by decide +kernel
theorem dX0_worth_19 : decode cX0_worth 19 = .ok (.getfield 20, 3) := by decide +kernel
theorem dX0_worth_22 : decode cX0_worth 22 = .ok (.aload_n 0, 1) := by decide +kernel
theorem dX0_worth_23 : decode cX0_worth 23 = .ok (.getfield 64, 3) := by decide +kernel
theorem dX0_worth_26 : decode cX0_worth 26 = .ok (.iaload, 1) := by decide +kernel
theorem dX0_worth_27 : decode cX0_worth 27 = .ok (.istore 4, 2) := by decide +kernel
theorem dX0_worth_29 : decode cX0_worth 29 = .ok (.iload_n 1, 1) := by decide +kernel
theorem dX0_worth_30 : decode cX0_worth 30 = .ok (.ifCond .ne 15, 3) := by decide +kernel
theorem dX0_worth_33 : decode cX0_worth 33 = .ok (.aload_n 0, 1) := by decide +kernel
theorem dX0_worth_34 : decode cX0_worth 34 = .ok (.getfield 20, 3) := by decide +kernel
theorem dX0_worth_37 : decode cX0_worth 37 = .ok (.aload_n 0, 1) := by decide +kernel
theorem dX0_worth_38 : decode cX0_worth 38 = .ok (.getfield 64, 3) := by decide +kernel
theorem dX0_worth_41 : decode cX0_worth 41 = .ok (.iaload, 1) := by decide +kernel
theorem dX0_worth_42 : decode cX0_worth 42 = .ok (.goto 12, 3) := by decide +kernel
theorem dX0_worth_45 : decode cX0_worth 45 = .ok (.aload_n 0, 1) := by decide +kernel
theorem dX0_worth_46 : decode cX0_worth 46 = .ok (.getfield 24, 3) := by decide +kernel
theorem dX0_worth_49 : decode cX0_worth 49 = .ok (.aload_n 0, 1) := by decide +kernel
theorem dX0_worth_50 : decode cX0_worth 50 = .ok (.getfield 64, 3) := by decide +kernel
theorem dX0_worth_53 : decode cX0_worth 53 = .ok (.iaload, 1) := by decide +kernel
theorem dX0_worth_54 : decode cX0_worth 54 = .ok (.istore 5, 2) := by decide +kernel
theorem dX0_worth_56 : decode cX0_worth 56 = .ok (.iconst 0, 1) := by decide +kernel
theorem dX0_worth_57 : decode cX0_worth 57 = .ok (.istore 6, 2) := by decide +kernel
theorem dX0_worth_59 : decode cX0_worth 59 = .ok (.iload 4, 2) := by decide +kernel
theorem dX0_worth_61 : decode cX0_worth 61 = .ok (.istore 7, 2) := by decide +kernel
theorem dX0_worth_63 : decode cX0_worth 63 = .ok (.iload 7, 2) := by decide +kernel
theorem dX0_worth_65 : decode cX0_worth 65 = .ok (.iload 5, 2) := by decide +kernel
theorem dX0_worth_67 : decode cX0_worth 67 = .ok (.if_icmp .ge 183, 3) := by decide +kernel
theorem dX0_worth_70 : decode cX0_worth 70 = .ok (.iload 6, 2) := by decide +kernel
theorem dX0_worth_72 : decode cX0_worth 72 = .ok (.sipush 160, 3) := by decide +kernel
theorem dX0_worth_75 : decode cX0_worth 75 = .ok (.if_icmp .ge 175, 3) := by decide +kernel
theorem dX0_worth_78 : decode cX0_worth 78 = .ok (.aload_n 3, 1) := by decide +kernel
theorem dX0_worth_79 : decode cX0_worth 79 = .ok (.iload 7, 2) := by decide +kernel
theorem dX0_worth_81 : decode cX0_worth 81 = .ok (.iaload, 1) := by decide +kernel
theorem dX0_worth_82 : decode cX0_worth 82 = .ok (.istore 8, 2) := by decide +kernel
theorem dX0_worth_84 : decode cX0_worth 84 = .ok (.iload 8, 2) := by decide +kernel
theorem dX0_worth_86 : decode cX0_worth 86 = .ok (.ifCond .lt 18, 3) := by decide +kernel
theorem dX0_worth_89 : decode cX0_worth 89 = .ok (.aload_n 0, 1) := by decide +kernel
theorem dX0_worth_90 : decode cX0_worth 90 = .ok (.getfield 27, 3) := by decide +kernel
theorem dX0_worth_93 : decode cX0_worth 93 = .ok (.iload 6, 2) := by decide +kernel
theorem dX0_worth_95 : decode cX0_worth 95 = .ok (.iinc 6 1, 3) := by decide +kernel
theorem dX0_worth_98 : decode cX0_worth 98 = .ok (.iload 8, 2) := by decide +kernel
theorem dX0_worth_100 : decode cX0_worth 100 = .ok (.iastore, 1) := by decide +kernel
theorem dX0_worth_101 : decode cX0_worth 101 = .ok (.goto 143, 3) := by decide +kernel
theorem dX0_worth_104 : decode cX0_worth 104 = .ok (.iload 8, 2) := by decide +kernel
theorem dX0_worth_106 : decode cX0_worth 106 = .ok (.bipush (-6), 2) := by decide +kernel
theorem dX0_worth_108 : decode cX0_worth 108 = .ok (.if_icmp .lt 22, 3) := by decide +kernel
theorem dX0_worth_111 : decode cX0_worth 111 = .ok (.aload_n 0, 1) := by decide +kernel
theorem dX0_worth_112 : decode cX0_worth 112 = .ok (.getfield 27, 3) := by decide +kernel
theorem dX0_worth_115 : decode cX0_worth 115 = .ok (.iload 6, 2) := by decide +kernel
theorem dX0_worth_117 : decode cX0_worth 117 = .ok (.iinc 6 1, 3) := by decide +kernel
theorem dX0_worth_120 : decode cX0_worth 120 = .ok (.aload_n 2, 1) := by decide +kernel
theorem dX0_worth_121 : decode cX0_worth 121 = .ok (.iconst (-1), 1) := by decide +kernel
theorem dX0_worth_122 : decode cX0_worth 122 = .ok (.iload 8, 2) := by decide +kernel
theorem dX0_worth_124 : decode cX0_worth 124 = .ok (.isub, 1) := by decide +kernel
theorem dX0_worth_125 : decode cX0_worth 125 = .ok (.iaload, 1) := by decide +kernel
theorem dX0_worth_126 : decode cX0_worth 126 = .ok (.iastore, 1) := by decide +kernel
theorem dX0_worth_127 : decode cX0_worth 127 = .ok (.goto 117, 3) := by decide +kernel
theorem dX0_worth_130 : decode cX0_worth 130 = .ok (.iload 8, 2) := by decide +kernel
theorem dX0_worth_132 : decode cX0_worth 132 = .ok (.bipush (-18), 2) := by decide +kernel
theorem dX0_worth_134 : decode cX0_worth 134 = .ok (.if_icmp .ne 37, 3) := by decide +kernel
theorem dX0_worth_137 : decode cX0_worth 137 = .ok (.iload 6, 2) := by decide +kernel
theorem dX0_worth_139 : decode cX0_worth 139 = .ok (.ifCond .le 32, 3) := by decide +kernel
theorem dX0_worth_142 : decode cX0_worth 142 = .ok (.aload_n 0, 1) := by decide +kernel
theorem dX0_worth_143 : decode cX0_worth 143 = .ok (.getfield 27, 3) := by decide +kernel
theorem dX0_worth_146 : decode cX0_worth 146 = .ok (.iload 6, 2) := by decide +kernel
theorem dX0_worth_148 : decode cX0_worth 148 = .ok (.iconst 1, 1) := by decide +kernel
theorem dX0_worth_149 : decode cX0_worth 149 = .ok (.isub, 1) := by decide +kernel
theorem dX0_worth_150 : decode cX0_worth 150 = .ok (.aload_n 0, 1) := by decide +kernel
theorem dX0_worth_151 : decode cX0_worth 151 = .ok (.getfield 27, 3) := by decide +kernel
theorem dX0_worth_154 : decode cX0_worth 154 = .ok (.iload 6, 2) := by decide +kernel
theorem dX0_worth_156 : decode cX0_worth 156 = .ok (.iconst 1, 1) := by decide +kernel
theorem dX0_worth_157 : decode cX0_worth 157 = .ok (.isub, 1) := by decide +kernel
theorem dX0_worth_158 : decode cX0_worth 158 = .ok (.iaload, 1) := by decide +kernel
theorem dX0_worth_159 : decode cX0_worth 159 = .ok (.ifCond .ne 7, 3) := by decide +kernel
theorem dX0_worth_162 : decode cX0_worth 162 = .ok (.iconst 1, 1) := by decide +kernel
theorem dX0_worth_163 : decode cX0_worth 163 = .ok (.goto 4, 3) := by decide +kernel
theorem dX0_worth_166 : decode cX0_worth 166 = .ok (.iconst 0, 1) := by decide +kernel
theorem dX0_worth_167 : decode cX0_worth 167 = .ok (.iastore, 1) := by decide +kernel
theorem dX0_worth_168 : decode cX0_worth 168 = .ok (.goto 76, 3) := by decide +kernel
theorem dX0_worth_171 : decode cX0_worth 171 = .ok (.iload 8, 2) := by decide +kernel
theorem dX0_worth_173 : decode cX0_worth 173 = .ok (.bipush (-9), 2) := by decide +kernel
theorem dX0_worth_175 : decode cX0_worth 175 = .ok (.if_icmp .ne 30, 3) := by decide +kernel
theorem dX0_worth_178 : decode cX0_worth 178 = .ok (.iload 6, 2) := by decide +kernel
theorem dX0_worth_180 : decode cX0_worth 180 = .ok (.ifCond .le 25, 3) := by decide +kernel
theorem dX0_worth_183 : decode cX0_worth 183 = .ok (.aload_n 0, 1) := by decide +kernel
theorem dX0_worth_184 : decode cX0_worth 184 = .ok (.getfield 27, 3) := by decide +kernel
theorem dX0_worth_187 : decode cX0_worth 187 = .ok (.iload 6, 2) := by decide +kernel
theorem dX0_worth_189 : decode cX0_worth 189 = .ok (.iconst 1, 1) := by decide +kernel
theorem dX0_worth_190 : decode cX0_worth 190 = .ok (.isub, 1) := by decide +kernel
theorem dX0_worth_191 : decode cX0_worth 191 = .ok (.aload_n 0, 1) := by decide +kernel
theorem dX0_worth_192 : decode cX0_worth 192 = .ok (.getfield 27, 3) := by decide +kernel
theorem dX0_worth_195 : decode cX0_worth 195 = .ok (.iload 6, 2) := by decide +kernel
theorem dX0_worth_197 : decode cX0_worth 197 = .ok (.iconst 1, 1) := by decide +kernel
theorem dX0_worth_198 : decode cX0_worth 198 = .ok (.isub, 1) := by decide +kernel
theorem dX0_worth_199 : decode cX0_worth 199 = .ok (.iaload, 1) := by decide +kernel
theorem dX0_worth_200 : decode cX0_worth 200 = .ok (.ineg, 1) := by decide +kernel
theorem dX0_worth_201 : decode cX0_worth 201 = .ok (.iastore, 1) := by decide +kernel
theorem dX0_worth_202 : decode cX0_worth 202 = .ok (.goto 42, 3) := by decide +kernel
theorem dX0_worth_205 : decode cX0_worth 205 = .ok (.iload 6, 2) := by decide +kernel
theorem dX0_worth_207 : decode cX0_worth 207 = .ok (.iconst 1, 1) := by decide +kernel
theorem dX0_worth_208 : decode cX0_worth 208 = .ok (.if_icmp .le 36, 3) := by decide +kernel
theorem dX0_worth_211 : decode cX0_worth 211 = .ok (.iinc 6 (-1), 3) := by decide +kernel
theorem dX0_worth_214 : decode cX0_worth 214 = .ok (.aload_n 0, 1) := by decide +kernel
theorem dX0_worth_215 : decode cX0_worth 215 = .ok (.getfield 27, 3) := by decide +kernel
theorem dX0_worth_218 : decode cX0_worth 218 = .ok (.iload 6, 2) := by decide +kernel
theorem dX0_worth_220 : decode cX0_worth 220 = .ok (.iconst 1, 1) := by decide +kernel
theorem dX0_worth_221 : decode cX0_worth 221 = .ok (.isub, 1) := by decide +kernel
theorem dX0_worth_222 : decode cX0_worth 222 = .ok (.iload 8, 2) := by decide +kernel
theorem dX0_worth_224 : decode cX0_worth 224 = .ok (.aload_n 0, 1) := by decide +kernel
theorem dX0_worth_225 : decode cX0_worth 225 = .ok (.getfield 27, 3) := by decide +kernel
theorem dX0_worth_228 : decode cX0_worth 228 = .ok (.iload 6, 2) := by decide +kernel
theorem dX0_worth_230 : decode cX0_worth 230 = .ok (.iconst 1, 1) := by decide +kernel
theorem dX0_worth_231 : decode cX0_worth 231 = .ok (.isub, 1) := by decide +kernel
theorem dX0_worth_232 : decode cX0_worth 232 = .ok (.iaload, 1) := by decide +kernel
theorem dX0_worth_233 : decode cX0_worth 233 = .ok (.aload_n 0, 1) := by decide +kernel
theorem dX0_worth_234 : decode cX0_worth 234 = .ok (.getfield 27, 3) := by decide +kernel
theorem dX0_worth_237 : decode cX0_worth 237 = .ok (.iload 6, 2) := by decide +kernel
theorem dX0_worth_239 : decode cX0_worth 239 = .ok (.iaload, 1) := by decide +kernel
theorem dX0_worth_240 : decode cX0_worth 240 = .ok (.invokestatic 67, 3) := by decide +kernel
theorem dX0_worth_243 : decode cX0_worth 243 = .ok (.iastore, 1) := by decide +kernel
theorem dX0_worth_244 : decode cX0_worth 244 = .ok (.iinc 7 1, 3) := by decide +kernel
theorem dX0_worth_247 : decode cX0_worth 247 = .ok (.goto (-184), 3) := by decide +kernel
theorem dX0_worth_250 : decode cX0_worth 250 = .ok (.aload_n 0, 1) := by decide +kernel
theorem dX0_worth_251 : decode cX0_worth 251 = .ok (.getfield 27, 3) := by decide +kernel
theorem dX0_worth_254 : decode cX0_worth 254 = .ok (.iconst 0, 1) := by decide +kernel
theorem dX0_worth_255 : decode cX0_worth 255 = .ok (.iaload, 1) := by decide +kernel
theorem dX0_worth_256 : decode cX0_worth 256 = .ok (.ireturn, 1) := by decide +kernel
theorem dX0_joined_0 : decode cX0_joined 0 = .ok (.iload_n 0, 1) := by decide +kernel
theorem dX0_joined_1 : decode cX0_joined 1 = .ok (.lookupswitch 117 #[(-61, 98), (-60, 87), (-45, 113), (-43, 109), (-17, 73), (-16, 59)], 59) := by decide +kernel
theorem dX0_joined_60 : decode cX0_joined 60 = .ok (.iload_n 1, 1) := by decide +kernel
theorem dX0_joined_61 : decode cX0_joined 61 = .ok (.ifCond .ne 7, 3) := by decide +kernel
theorem dX0_joined_64 : decode cX0_joined 64 = .ok (.iload_n 2, 1) := by decide +kernel
theorem dX0_joined_65 : decode cX0_joined 65 = .ok (.ifCond .eq 7, 3) := by decide +kernel
theorem dX0_joined_68 : decode cX0_joined 68 = .ok (.iconst 1, 1) := by decide +kernel
theorem dX0_joined_69 : decode cX0_joined 69 = .ok (.goto 4, 3) := by decide +kernel
theorem dX0_joined_72 : decode cX0_joined 72 = .ok (.iconst 0, 1) := by decide +kernel
theorem dX0_joined_73 : decode cX0_joined 73 = .ok (.ireturn, 1) := by decide +kernel
theorem dX0_joined_74 : decode cX0_joined 74 = .ok (.iload_n 1, 1) := by decide +kernel
theorem dX0_joined_75 : decode cX0_joined 75 = .ok (.ifCond .eq 11, 3) := by decide +kernel
theorem dX0_joined_78 : decode cX0_joined 78 = .ok (.iload_n 2, 1) := by decide +kernel
theorem dX0_joined_79 : decode cX0_joined 79 = .ok (.ifCond .eq 7, 3) := by decide +kernel
theorem dX0_joined_82 : decode cX0_joined 82 = .ok (.iconst 1, 1) := by decide +kernel
theorem dX0_joined_83 : decode cX0_joined 83 = .ok (.goto 4, 3) := by decide +kernel
theorem dX0_joined_86 : decode cX0_joined 86 = .ok (.iconst 0, 1) := by decide +kernel
theorem dX0_joined_87 : decode cX0_joined 87 = .ok (.ireturn, 1) := by decide +kernel
theorem dX0_joined_88 : decode cX0_joined 88 = .ok (.iload_n 1, 1) := by decide +kernel
theorem dX0_joined_89 : decode cX0_joined 89 = .ok (.iload_n 2, 1) := by decide +kernel
theorem dX0_joined_90 : decode cX0_joined 90 = .ok (.if_icmp .ge 7, 3) := by decide +kernel
theorem dX0_joined_93 : decode cX0_joined 93 = .ok (.iconst 1, 1) := by decide +kernel
theorem dX0_joined_94 : decode cX0_joined 94 = .ok (.goto 4, 3) := by decide +kernel
theorem dX0_joined_97 : decode cX0_joined 97 = .ok (.iconst 0, 1) := by decide +kernel
theorem dX0_joined_98 : decode cX0_joined 98 = .ok (.ireturn, 1) := by decide +kernel
theorem dX0_joined_99 : decode cX0_joined 99 = .ok (.iload_n 1, 1) := by decide +kernel
theorem dX0_joined_100 : decode cX0_joined 100 = .ok (.iload_n 2, 1) := by decide +kernel
theorem dX0_joined_101 : decode cX0_joined 101 = .ok (.if_icmp .ne 7, 3) := by decide +kernel
theorem dX0_joined_104 : decode cX0_joined 104 = .ok (.iconst 1, 1) := by decide +kernel
theorem dX0_joined_105 : decode cX0_joined 105 = .ok (.goto 4, 3) := by decide +kernel
theorem dX0_joined_108 : decode cX0_joined 108 = .ok (.iconst 0, 1) := by decide +kernel
theorem dX0_joined_109 : decode cX0_joined 109 = .ok (.ireturn, 1) := by decide +kernel
theorem dX0_joined_110 : decode cX0_joined 110 = .ok (.iload_n 1, 1) := by decide +kernel
theorem dX0_joined_111 : decode cX0_joined 111 = .ok (.iload_n 2, 1) := by decide +kernel
theorem dX0_joined_112 : decode cX0_joined 112 = .ok (.iadd, 1) := by decide +kernel
theorem dX0_joined_113 : decode cX0_joined 113 = .ok (.ireturn, 1) := by decide +kernel
theorem dX0_joined_114 : decode cX0_joined 114 = .ok (.iload_n 1, 1) := by decide +kernel
theorem dX0_joined_115 : decode cX0_joined 115 = .ok (.iload_n 2, 1) := by decide +kernel
theorem dX0_joined_116 : decode cX0_joined 116 = .ok (.isub, 1) := by decide +kernel
theorem dX0_joined_117 : decode cX0_joined 117 = .ok (.ireturn, 1) := by decide +kernel
theorem dX0_joined_118 : decode cX0_joined 118 = .ok (.iload_n 1, 1) := by decide +kernel
theorem dX0_joined_119 : decode cX0_joined 119 = .ok (.iload_n 2, 1) := by decide +kernel
theorem dX0_joined_120 : decode cX0_joined 120 = .ok (.imul, 1) := by decide +kernel
theorem dX0_joined_121 : decode cX0_joined 121 = .ok (.ireturn, 1) := by decide +kernel
theorem dX1_init_0 : decode cX1_init 0 = .ok (.aload_n 0, 1) := by decide +kernel
theorem dX1_init_1 : decode cX1_init 1 = .ok (.invokespecial 3, 3) := by decide +kernel
theorem dX1_init_4 : decode cX1_init 4 = .ok (.aload_n 0, 1) := by decide +kernel
theorem dX1_init_5 : decode cX1_init 5 = .ok (.iconst 4, 1) := by decide +kernel
theorem dX1_init_6 : decode cX1_init 6 = .ok (.newarray .int, 2) := by decide +kernel
theorem dX1_init_8 : decode cX1_init 8 = .ok (.putfield 9, 3) := by decide +kernel
theorem dX1_init_11 : decode cX1_init 11 = .ok (.aload_n 0, 1) := by decide +kernel
theorem dX1_init_12 : decode cX1_init 12 = .ok (.iconst 4, 1) := by decide +kernel
theorem dX1_init_13 : decode cX1_init 13 = .ok (.newarray .int, 2) := by decide +kernel
theorem dX1_init_15 : decode cX1_init 15 = .ok (.putfield 15, 3) := by decide +kernel
theorem dX1_init_18 : decode cX1_init 18 = .ok (.aload_n 0, 1) := by decide +kernel
theorem dX1_init_19 : decode cX1_init 19 = .ok (.iconst 4, 1) := by decide +kernel
theorem dX1_init_20 : decode cX1_init 20 = .ok (.newarray .int, 2) := by decide +kernel
theorem dX1_init_22 : decode cX1_init 22 = .ok (.putfield 18, 3) := by decide +kernel
theorem dX1_init_25 : decode cX1_init 25 = .ok (.aload_n 0, 1) := by decide +kernel
theorem dX1_init_26 : decode cX1_init 26 = .ok (.iconst 4, 1) := by decide +kernel
theorem dX1_init_27 : decode cX1_init 27 = .ok (.newarray .int, 2) := by decide +kernel
theorem dX1_init_29 : decode cX1_init 29 = .ok (.putfield 21, 3) := by decide +kernel
theorem dX1_init_32 : decode cX1_init 32 = .ok (.return_, 1) := by decide +kernel
theorem dX1_hire_0 : decode cX1_hire 0 = .ok (.aload_n 0, 1) := by decide +kernel
theorem dX1_hire_1 : decode cX1_hire 1 = .ok (.dup, 1) := by decide +kernel
theorem dX1_hire_2 : decode cX1_hire 2 = .ok (.getfield 24, 3) := by decide +kernel
theorem dX1_hire_5 : decode cX1_hire 5 = .ok (.dup_x1, 1) := by decide +kernel
theorem dX1_hire_6 : decode cX1_hire 6 = .ok (.iconst 1, 1) := by decide +kernel
theorem dX1_hire_7 : decode cX1_hire 7 = .ok (.iadd, 1) := by decide +kernel
theorem dX1_hire_8 : decode cX1_hire 8 = .ok (.putfield 24, 3) := by decide +kernel
theorem dX1_hire_11 : decode cX1_hire 11 = .ok (.istore 5, 2) := by decide +kernel
theorem dX1_hire_13 : decode cX1_hire 13 = .ok (.aload_n 0, 1) := by decide +kernel
theorem dX1_hire_14 : decode cX1_hire 14 = .ok (.getfield 9, 3) := by decide +kernel
theorem dX1_hire_17 : decode cX1_hire 17 = .ok (.iload 5, 2) := by decide +kernel
theorem dX1_hire_19 : decode cX1_hire 19 = .ok (.iload_n 1, 1) := by decide +kernel
theorem dX1_hire_20 : decode cX1_hire 20 = .ok (.iastore, 1) := by decide +kernel
theorem dX1_hire_21 : decode cX1_hire 21 = .ok (.aload_n 0, 1) := by decide +kernel
theorem dX1_hire_22 : decode cX1_hire 22 = .ok (.getfield 15, 3) := by decide +kernel
theorem dX1_hire_25 : decode cX1_hire 25 = .ok (.iload 5, 2) := by decide +kernel
theorem dX1_hire_27 : decode cX1_hire 27 = .ok (.iload_n 2, 1) := by decide +kernel
theorem dX1_hire_28 : decode cX1_hire 28 = .ok (.iastore, 1) := by decide +kernel
theorem dX1_hire_29 : decode cX1_hire 29 = .ok (.aload_n 0, 1) := by decide +kernel
theorem dX1_hire_30 : decode cX1_hire 30 = .ok (.getfield 18, 3) := by decide +kernel
theorem dX1_hire_33 : decode cX1_hire 33 = .ok (.iload 5, 2) := by decide +kernel
theorem dX1_hire_35 : decode cX1_hire 35 = .ok (.iload_n 3, 1) := by decide +kernel
theorem dX1_hire_36 : decode cX1_hire 36 = .ok (.iastore, 1) := by decide +kernel
theorem dX1_hire_37 : decode cX1_hire 37 = .ok (.aload_n 0, 1) := by decide +kernel
theorem dX1_hire_38 : decode cX1_hire 38 = .ok (.getfield 21, 3) := by decide +kernel
theorem dX1_hire_41 : decode cX1_hire 41 = .ok (.iload 5, 2) := by decide +kernel
theorem dX1_hire_43 : decode cX1_hire 43 = .ok (.iload 4, 2) := by decide +kernel
theorem dX1_hire_45 : decode cX1_hire 45 = .ok (.iastore, 1) := by decide +kernel
theorem dX1_hire_46 : decode cX1_hire 46 = .ok (.iload 5, 2) := by decide +kernel
theorem dX1_hire_48 : decode cX1_hire 48 = .ok (.ireturn, 1) := by decide +kernel
theorem dX2_init_0 : decode cX2_init 0 = .ok (.aload_n 0, 1) := by decide +kernel
theorem dX2_init_1 : decode cX2_init 1 = .ok (.invokespecial 3, 3) := by decide +kernel
theorem dX2_init_4 : decode cX2_init 4 = .ok (.aload_n 0, 1) := by decide +kernel
theorem dX2_init_5 : decode cX2_init 5 = .ok (.bipush 6, 2) := by decide +kernel
theorem dX2_init_7 : decode cX2_init 7 = .ok (.newarray .int, 2) := by decide +kernel
theorem dX2_init_9 : decode cX2_init 9 = .ok (.putfield 9, 3) := by decide +kernel
theorem dX2_init_12 : decode cX2_init 12 = .ok (.aload_n 0, 1) := by decide +kernel
theorem dX2_init_13 : decode cX2_init 13 = .ok (.bipush 6, 2) := by decide +kernel
theorem dX2_init_15 : decode cX2_init 15 = .ok (.newarray .int, 2) := by decide +kernel
theorem dX2_init_17 : decode cX2_init 17 = .ok (.putfield 15, 3) := by decide +kernel
theorem dX2_init_20 : decode cX2_init 20 = .ok (.aload_n 0, 1) := by decide +kernel
theorem dX2_init_21 : decode cX2_init 21 = .ok (.bipush 6, 2) := by decide +kernel
theorem dX2_init_23 : decode cX2_init 23 = .ok (.newarray .int, 2) := by decide +kernel
theorem dX2_init_25 : decode cX2_init 25 = .ok (.putfield 18, 3) := by decide +kernel
theorem dX2_init_28 : decode cX2_init 28 = .ok (.aload_n 0, 1) := by decide +kernel
theorem dX2_init_29 : decode cX2_init 29 = .ok (.bipush 6, 2) := by decide +kernel
theorem dX2_init_31 : decode cX2_init 31 = .ok (.newarray .int, 2) := by decide +kernel
theorem dX2_init_33 : decode cX2_init 33 = .ok (.putfield 21, 3) := by decide +kernel
theorem dX2_init_36 : decode cX2_init 36 = .ok (.aload_n 0, 1) := by decide +kernel
theorem dX2_init_37 : decode cX2_init 37 = .ok (.iconst 3, 1) := by decide +kernel
theorem dX2_init_38 : decode cX2_init 38 = .ok (.newarray .int, 2) := by decide +kernel
theorem dX2_init_40 : decode cX2_init 40 = .ok (.putfield 24, 3) := by decide +kernel
theorem dX2_init_43 : decode cX2_init 43 = .ok (.aload_n 0, 1) := by decide +kernel
theorem dX2_init_44 : decode cX2_init 44 = .ok (.iconst 3, 1) := by decide +kernel
theorem dX2_init_45 : decode cX2_init 45 = .ok (.newarray .int, 2) := by decide +kernel
theorem dX2_init_47 : decode cX2_init 47 = .ok (.putfield 27, 3) := by decide +kernel
theorem dX2_init_50 : decode cX2_init 50 = .ok (.aload_n 0, 1) := by decide +kernel
theorem dX2_init_51 : decode cX2_init 51 = .ok (.iconst 4, 1) := by decide +kernel
theorem dX2_init_52 : decode cX2_init 52 = .ok (.newarray .int, 2) := by decide +kernel
theorem dX2_init_54 : decode cX2_init 54 = .ok (.putfield 30, 3) := by decide +kernel
theorem dX2_init_57 : decode cX2_init 57 = .ok (.aload_n 0, 1) := by decide +kernel
theorem dX2_init_58 : decode cX2_init 58 = .ok (.iconst 4, 1) := by decide +kernel
theorem dX2_init_59 : decode cX2_init 59 = .ok (.newarray .int, 2) := by decide +kernel
theorem dX2_init_61 : decode cX2_init 61 = .ok (.putfield 33, 3) := by decide +kernel
theorem dX2_init_64 : decode cX2_init 64 = .ok (.aload_n 0, 1) := by decide +kernel
theorem dX2_init_65 : decode cX2_init 65 = .ok (.getfield 21, 3) := by decide +kernel
theorem dX2_init_68 : decode cX2_init 68 = .ok (.iconst (-1), 1) := by decide +kernel
theorem dX2_init_69 : decode cX2_init 69 = .ok (.invokestatic 36, 3) := by decide +kernel
theorem dX2_init_72 : decode cX2_init 72 = .ok (.aload_n 0, 1) := by decide +kernel
theorem dX2_init_73 : decode cX2_init 73 = .ok (.getfield 33, 3) := by decide +kernel
theorem dX2_init_76 : decode cX2_init 76 = .ok (.iconst (-1), 1) := by decide +kernel
theorem dX2_init_77 : decode cX2_init 77 = .ok (.invokestatic 36, 3) := by decide +kernel
theorem dX2_init_80 : decode cX2_init 80 = .ok (.return_, 1) := by decide +kernel
theorem dX2_become_0 : decode cX2_become 0 = .ok (.aload_n 1, 1) := by decide +kernel
theorem dX2_become_1 : decode cX2_become 1 = .ok (.getfield 9, 3) := by decide +kernel
theorem dX2_become_4 : decode cX2_become 4 = .ok (.iconst 0, 1) := by decide +kernel
theorem dX2_become_5 : decode cX2_become 5 = .ok (.aload_n 0, 1) := by decide +kernel
theorem dX2_become_6 : decode cX2_become 6 = .ok (.getfield 9, 3) := by decide +kernel
theorem dX2_become_9 : decode cX2_become 9 = .ok (.iconst 0, 1) := by decide +kernel
theorem dX2_become_10 : decode cX2_become 10 = .ok (.bipush 6, 2) := by decide +kernel
theorem dX2_become_12 : decode cX2_become 12 = .ok (.invokestatic 42, 3) := by decide +kernel
theorem dX2_become_15 : decode cX2_become 15 = .ok (.aload_n 1, 1) := by decide +kernel
theorem dX2_become_16 : decode cX2_become 16 = .ok (.getfield 15, 3) := by decide +kernel
theorem dX2_become_19 : decode cX2_become 19 = .ok (.iconst 0, 1) := by decide +kernel
theorem dX2_become_20 : decode cX2_become 20 = .ok (.aload_n 0, 1) := by decide +kernel
theorem dX2_become_21 : decode cX2_become 21 = .ok (.getfield 15, 3) := by decide +kernel
theorem dX2_become_24 : decode cX2_become 24 = .ok (.iconst 0, 1) := by decide +kernel
theorem dX2_become_25 : decode cX2_become 25 = .ok (.bipush 6, 2) := by decide +kernel
theorem dX2_become_27 : decode cX2_become 27 = .ok (.invokestatic 42, 3) := by decide +kernel
theorem dX2_become_30 : decode cX2_become 30 = .ok (.aload_n 1, 1) := by decide +kernel
theorem dX2_become_31 : decode cX2_become 31 = .ok (.getfield 18, 3) := by decide +kernel
theorem dX2_become_34 : decode cX2_become 34 = .ok (.iconst 0, 1) := by decide +kernel
theorem dX2_become_35 : decode cX2_become 35 = .ok (.aload_n 0, 1) := by decide +kernel
theorem dX2_become_36 : decode cX2_become 36 = .ok (.getfield 18, 3) := by decide +kernel
theorem dX2_become_39 : decode cX2_become 39 = .ok (.iconst 0, 1) := by decide +kernel
theorem dX2_become_40 : decode cX2_become 40 = .ok (.bipush 6, 2) := by decide +kernel
theorem dX2_become_42 : decode cX2_become 42 = .ok (.invokestatic 42, 3) := by decide +kernel
theorem dX2_become_45 : decode cX2_become 45 = .ok (.aload_n 1, 1) := by decide +kernel
theorem dX2_become_46 : decode cX2_become 46 = .ok (.getfield 21, 3) := by decide +kernel
theorem dX2_become_49 : decode cX2_become 49 = .ok (.iconst 0, 1) := by decide +kernel
theorem dX2_become_50 : decode cX2_become 50 = .ok (.aload_n 0, 1) := by decide +kernel
theorem dX2_become_51 : decode cX2_become 51 = .ok (.getfield 21, 3) := by decide +kernel
theorem dX2_become_54 : decode cX2_become 54 = .ok (.iconst 0, 1) := by decide +kernel
theorem dX2_become_55 : decode cX2_become 55 = .ok (.bipush 6, 2) := by decide +kernel
theorem dX2_become_57 : decode cX2_become 57 = .ok (.invokestatic 42, 3) := by decide +kernel
theorem dX2_become_60 : decode cX2_become 60 = .ok (.aload_n 1, 1) := by decide +kernel
theorem dX2_become_61 : decode cX2_become 61 = .ok (.getfield 24, 3) := by decide +kernel
theorem dX2_become_64 : decode cX2_become 64 = .ok (.iconst 0, 1) := by decide +kernel
theorem dX2_become_65 : decode cX2_become 65 = .ok (.aload_n 0, 1) := by decide +kernel
theorem dX2_become_66 : decode cX2_become 66 = .ok (.getfield 24, 3) := by decide +kernel
theorem dX2_become_69 : decode cX2_become 69 = .ok (.iconst 0, 1) := by decide +kernel
theorem dX2_become_70 : decode cX2_become 70 = .ok (.iconst 3, 1) := by decide +kernel
theorem dX2_become_71 : decode cX2_become 71 = .ok (.invokestatic 42, 3) := by decide +kernel
theorem dX2_become_74 : decode cX2_become 74 = .ok (.aload_n 1, 1) := by decide +kernel
theorem dX2_become_75 : decode cX2_become 75 = .ok (.getfield 27, 3) := by decide +kernel
theorem dX2_become_78 : decode cX2_become 78 = .ok (.iconst 0, 1) := by decide +kernel
theorem dX2_become_79 : decode cX2_become 79 = .ok (.aload_n 0, 1) := by decide +kernel
theorem dX2_become_80 : decode cX2_become 80 = .ok (.getfield 27, 3) := by decide +kernel
theorem dX2_become_83 : decode cX2_become 83 = .ok (.iconst 0, 1) := by decide +kernel
theorem dX2_become_84 : decode cX2_become 84 = .ok (.iconst 3, 1) := by decide +kernel
theorem dX2_become_85 : decode cX2_become 85 = .ok (.invokestatic 42, 3) := by decide +kernel
theorem dX2_become_88 : decode cX2_become 88 = .ok (.aload_n 1, 1) := by decide +kernel
theorem dX2_become_89 : decode cX2_become 89 = .ok (.getfield 30, 3) := by decide +kernel
theorem dX2_become_92 : decode cX2_become 92 = .ok (.iconst 0, 1) := by decide +kernel
theorem dX2_become_93 : decode cX2_become 93 = .ok (.aload_n 0, 1) := by decide +kernel
theorem dX2_become_94 : decode cX2_become 94 = .ok (.getfield 30, 3) := by decide +kernel
theorem dX2_become_97 : decode cX2_become 97 = .ok (.iconst 0, 1) := by decide +kernel
theorem dX2_become_98 : decode cX2_become 98 = .ok (.iconst 4, 1) := by decide +kernel
theorem dX2_become_99 : decode cX2_become 99 = .ok (.invokestatic 42, 3) := by decide +kernel
theorem dX2_become_102 : decode cX2_become 102 = .ok (.aload_n 1, 1) := by decide +kernel
theorem dX2_become_103 : decode cX2_become 103 = .ok (.getfield 33, 3) := by decide +kernel
theorem dX2_become_106 : decode cX2_become 106 = .ok (.iconst 0, 1) := by decide +kernel
theorem dX2_become_107 : decode cX2_become 107 = .ok (.aload_n 0, 1) := by decide +kernel
theorem dX2_become_108 : decode cX2_become 108 = .ok (.getfield 33, 3) := by decide +kernel
theorem dX2_become_111 : decode cX2_become 111 = .ok (.iconst 0, 1) := by decide +kernel
theorem dX2_become_112 : decode cX2_become 112 = .ok (.iconst 4, 1) := by decide +kernel
theorem dX2_become_113 : decode cX2_become 113 = .ok (.invokestatic 42, 3) := by decide +kernel
theorem dX2_become_116 : decode cX2_become 116 = .ok (.aload_n 0, 1) := by decide +kernel
theorem dX2_become_117 : decode cX2_become 117 = .ok (.aload_n 1, 1) := by decide +kernel
theorem dX2_become_118 : decode cX2_become 118 = .ok (.getfield 48, 3) := by decide +kernel
theorem dX2_become_121 : decode cX2_become 121 = .ok (.putfield 48, 3) := by decide +kernel
theorem dX2_become_124 : decode cX2_become 124 = .ok (.aload_n 0, 1) := by decide +kernel
theorem dX2_become_125 : decode cX2_become 125 = .ok (.aload_n 1, 1) := by decide +kernel
theorem dX2_become_126 : decode cX2_become 126 = .ok (.getfield 52, 3) := by decide +kernel
theorem dX2_become_129 : decode cX2_become 129 = .ok (.putfield 52, 3) := by decide +kernel
theorem dX2_become_132 : decode cX2_become 132 = .ok (.return_, 1) := by decide +kernel
theorem dX2_isCalled_0 : decode cX2_isCalled 0 = .ok (.aload_n 0, 1) := by decide +kernel
theorem dX2_isCalled_1 : decode cX2_isCalled 1 = .ok (.getfield 21, 3) := by decide +kernel
theorem dX2_isCalled_4 : decode cX2_isCalled 4 = .ok (.iload_n 1, 1) := by decide +kernel
theorem dX2_isCalled_5 : decode cX2_isCalled 5 = .ok (.iaload, 1) := by decide +kernel
theorem dX2_isCalled_6 : decode cX2_isCalled 6 = .ok (.iconst (-1), 1) := by decide +kernel
theorem dX2_isCalled_7 : decode cX2_isCalled 7 = .ok (.if_icmp .eq 20, 3) := by decide +kernel
theorem dX2_isCalled_10 : decode cX2_isCalled 10 = .ok (.aload_n 0, 1) := by decide +kernel
theorem dX2_isCalled_11 : decode cX2_isCalled 11 = .ok (.getfield 21, 3) := by decide +kernel
theorem dX2_isCalled_14 : decode cX2_isCalled 14 = .ok (.iload_n 1, 1) := by decide +kernel
theorem dX2_isCalled_15 : decode cX2_isCalled 15 = .ok (.iaload, 1) := by decide +kernel
theorem dX2_isCalled_16 : decode cX2_isCalled 16 = .ok (.aload_n 0, 1) := by decide +kernel
theorem dX2_isCalled_17 : decode cX2_isCalled 17 = .ok (.getfield 52, 3) := by decide +kernel
theorem dX2_isCalled_20 : decode cX2_isCalled 20 = .ok (.if_icmp .gt 7, 3) := by decide +kernel
theorem dX2_isCalled_23 : decode cX2_isCalled 23 = .ok (.iconst 1, 1) := by decide +kernel
theorem dX2_isCalled_24 : decode cX2_isCalled 24 = .ok (.goto 4, 3) := by decide +kernel
theorem dX2_isCalled_27 : decode cX2_isCalled 27 = .ok (.iconst 0, 1) := by decide +kernel
theorem dX2_isCalled_28 : decode cX2_isCalled 28 = .ok (.ireturn, 1) := by decide +kernel
theorem dX3_init_0 : decode cX3_init 0 = .ok (.aload_n 0, 1) := by decide +kernel
theorem dX3_init_1 : decode cX3_init 1 = .ok (.invokespecial 3, 3) := by decide +kernel
theorem dX3_init_4 : decode cX3_init 4 = .ok (.aload_n 0, 1) := by decide +kernel
theorem dX3_init_5 : decode cX3_init 5 = .ok (.new 9, 3) := by decide +kernel
theorem dX3_init_8 : decode cX3_init 8 = .ok (.dup, 1) := by decide +kernel
theorem dX3_init_9 : decode cX3_init 9 = .ok (.invokespecial 11, 3) := by decide +kernel
theorem dX3_init_12 : decode cX3_init 12 = .ok (.putfield 12, 3) := by decide +kernel
theorem dX3_init_15 : decode cX3_init 15 = .ok (.aload_n 0, 1) := by decide +kernel
theorem dX3_init_16 : decode cX3_init 16 = .ok (.bipush 6, 2) := by decide +kernel
theorem dX3_init_18 : decode cX3_init 18 = .ok (.newarray .int, 2) := by decide +kernel
theorem dX3_init_20 : decode cX3_init 20 = .ok (.putfield 18, 3) := by decide +kernel
theorem dX3_init_23 : decode cX3_init 23 = .ok (.aload_n 0, 1) := by decide +kernel
theorem dX3_init_24 : decode cX3_init 24 = .ok (.bipush 6, 2) := by decide +kernel
theorem dX3_init_26 : decode cX3_init 26 = .ok (.newarray .int, 2) := by decide +kernel
theorem dX3_init_28 : decode cX3_init 28 = .ok (.putfield 22, 3) := by decide +kernel
theorem dX3_init_31 : decode cX3_init 31 = .ok (.aload_n 0, 1) := by decide +kernel
theorem dX3_init_32 : decode cX3_init 32 = .ok (.iconst 4, 1) := by decide +kernel
theorem dX3_init_33 : decode cX3_init 33 = .ok (.newarray .int, 2) := by decide +kernel
theorem dX3_init_35 : decode cX3_init 35 = .ok (.putfield 25, 3) := by decide +kernel
theorem dX3_init_38 : decode cX3_init 38 = .ok (.aload_n 0, 1) := by decide +kernel
theorem dX3_init_39 : decode cX3_init 39 = .ok (.aload_n 1, 1) := by decide +kernel
theorem dX3_init_40 : decode cX3_init 40 = .ok (.putfield 28, 3) := by decide +kernel
theorem dX3_init_43 : decode cX3_init 43 = .ok (.aload_n 0, 1) := by decide +kernel
theorem dX3_init_44 : decode cX3_init 44 = .ok (.aload_n 2, 1) := by decide +kernel
theorem dX3_init_45 : decode cX3_init 45 = .ok (.putfield 32, 3) := by decide +kernel
theorem dX3_init_48 : decode cX3_init 48 = .ok (.aload_n 0, 1) := by decide +kernel
theorem dX3_init_49 : decode cX3_init 49 = .ok (.aload_n 3, 1) := by decide +kernel
theorem dX3_init_50 : decode cX3_init 50 = .ok (.putfield 36, 3) := by decide +kernel
theorem dX3_init_53 : decode cX3_init 53 = .ok (.aload_n 0, 1) := by decide +kernel
theorem dX3_init_54 : decode cX3_init 54 = .ok (.aload 4, 2) := by decide +kernel
theorem dX3_init_56 : decode cX3_init 56 = .ok (.putfield 39, 3) := by decide +kernel
theorem dX3_init_59 : decode cX3_init 59 = .ok (.aload_n 0, 1) := by decide +kernel
theorem dX3_init_60 : decode cX3_init 60 = .ok (.getfield 22, 3) := by decide +kernel
theorem dX3_init_63 : decode cX3_init 63 = .ok (.iconst (-1), 1) := by decide +kernel
theorem dX3_init_64 : decode cX3_init 64 = .ok (.invokestatic 43, 3) := by decide +kernel
theorem dX3_init_67 : decode cX3_init 67 = .ok (.return_, 1) := by decide +kernel
theorem dX3_foreseen_0 : decode cX3_foreseen 0 = .ok (.aload_n 0, 1) := by decide +kernel
theorem dX3_foreseen_1 : decode cX3_foreseen 1 = .ok (.getfield 12, 3) := by decide +kernel
theorem dX3_foreseen_4 : decode cX3_foreseen 4 = .ok (.aload_n 0, 1) := by decide +kernel
theorem dX3_foreseen_5 : decode cX3_foreseen 5 = .ok (.getfield 36, 3) := by decide +kernel
theorem dX3_foreseen_8 : decode cX3_foreseen 8 = .ok (.invokevirtual 49, 3) := by decide +kernel
theorem dX3_foreseen_11 : decode cX3_foreseen 11 = .ok (.iconst 0, 1) := by decide +kernel
theorem dX3_foreseen_12 : decode cX3_foreseen 12 = .ok (.istore_n 2, 1) := by decide +kernel
theorem dX3_foreseen_13 : decode cX3_foreseen 13 = .ok (.iload_n 2, 1) := by decide +kernel
theorem dX3_foreseen_14 : decode cX3_foreseen 14 = .ok (.aload_n 0, 1) := by decide +kernel
theorem dX3_foreseen_15 : decode cX3_foreseen 15 = .ok (.getfield 28, 3) := by decide +kernel
theorem dX3_foreseen_18 : decode cX3_foreseen 18 = .ok (.getfield 53, 3) := by decide +kernel
theorem dX3_foreseen_21 : decode cX3_foreseen 21 = .ok (.if_icmp .ge 55, 3) := by decide +kernel
theorem dX3_foreseen_24 : decode cX3_foreseen 24 = .ok (.aload_n 0, 1) := by decide +kernel
theorem dX3_foreseen_25 : decode cX3_foreseen 25 = .ok (.getfield 36, 3) := by decide +kernel
theorem dX3_foreseen_28 : decode cX3_foreseen 28 = .ok (.getfield 59, 3) := by decide +kernel
theorem dX3_foreseen_31 : decode cX3_foreseen 31 = .ok (.iload_n 2, 1) := by decide +kernel
theorem dX3_foreseen_32 : decode cX3_foreseen 32 = .ok (.iaload, 1) := by decide +kernel
theorem dX3_foreseen_33 : decode cX3_foreseen 33 = .ok (.iconst (-1), 1) := by decide +kernel
theorem dX3_foreseen_34 : decode cX3_foreseen 34 = .ok (.if_icmp .ne 36, 3) := by decide +kernel
theorem dX3_foreseen_37 : decode cX3_foreseen 37 = .ok (.aload_n 0, 1) := by decide +kernel
theorem dX3_foreseen_38 : decode cX3_foreseen 38 = .ok (.getfield 18, 3) := by decide +kernel
theorem dX3_foreseen_41 : decode cX3_foreseen 41 = .ok (.iload_n 2, 1) := by decide +kernel
theorem dX3_foreseen_42 : decode cX3_foreseen 42 = .ok (.iaload, 1) := by decide +kernel
theorem dX3_foreseen_43 : decode cX3_foreseen 43 = .ok (.iconst (-1), 1) := by decide +kernel
theorem dX3_foreseen_44 : decode cX3_foreseen 44 = .ok (.if_icmp .eq 26, 3) := by decide +kernel
theorem dX3_foreseen_47 : decode cX3_foreseen 47 = .ok (.aload_n 0, 1) := by decide +kernel
theorem dX3_foreseen_48 : decode cX3_foreseen 48 = .ok (.getfield 12, 3) := by decide +kernel
theorem dX3_foreseen_51 : decode cX3_foreseen 51 = .ok (.getfield 59, 3) := by decide +kernel
theorem dX3_foreseen_54 : decode cX3_foreseen 54 = .ok (.iload_n 2, 1) := by decide +kernel
theorem dX3_foreseen_55 : decode cX3_foreseen 55 = .ok (.aload_n 0, 1) := by decide +kernel
theorem dX3_foreseen_56 : decode cX3_foreseen 56 = .ok (.getfield 36, 3) := by decide +kernel
theorem dX3_foreseen_59 : decode cX3_foreseen 59 = .ok (.getfield 62, 3) := by decide +kernel
theorem dX3_foreseen_62 : decode cX3_foreseen 62 = .ok (.aload_n 0, 1) := by decide +kernel
theorem dX3_foreseen_63 : decode cX3_foreseen 63 = .ok (.getfield 18, 3) := by decide +kernel
theorem dX3_foreseen_66 : decode cX3_foreseen 66 = .ok (.iload_n 2, 1) := by decide +kernel
theorem dX3_foreseen_67 : decode cX3_foreseen 67 = .ok (.iaload, 1) := by decide +kernel
theorem dX3_foreseen_68 : decode cX3_foreseen 68 = .ok (.iadd, 1) := by decide +kernel
theorem dX3_foreseen_69 : decode cX3_foreseen 69 = .ok (.iastore, 1) := by decide +kernel
theorem dX3_foreseen_70 : decode cX3_foreseen 70 = .ok (.iinc 2 1, 3) := by decide +kernel
theorem dX3_foreseen_73 : decode cX3_foreseen 73 = .ok (.goto (-60), 3) := by decide +kernel
theorem dX3_foreseen_76 : decode cX3_foreseen 76 = .ok (.aload_n 0, 1) := by decide +kernel
theorem dX3_foreseen_77 : decode cX3_foreseen 77 = .ok (.iload_n 1, 1) := by decide +kernel
theorem dX3_foreseen_78 : decode cX3_foreseen 78 = .ok (.invokevirtual 65, 3) := by decide +kernel
theorem dX3_foreseen_81 : decode cX3_foreseen 81 = .ok (.istore_n 2, 1) := by decide +kernel
theorem dX3_foreseen_82 : decode cX3_foreseen 82 = .ok (.aload_n 0, 1) := by decide +kernel
theorem dX3_foreseen_83 : decode cX3_foreseen 83 = .ok (.getfield 36, 3) := by decide +kernel
theorem dX3_foreseen_86 : decode cX3_foreseen 86 = .ok (.getfield 62, 3) := by decide +kernel
theorem dX3_foreseen_89 : decode cX3_foreseen 89 = .ok (.istore_n 3, 1) := by decide +kernel
theorem dX3_foreseen_90 : decode cX3_foreseen 90 = .ok (.iload_n 3, 1) := by decide +kernel
theorem dX3_foreseen_91 : decode cX3_foreseen 91 = .ok (.iload_n 2, 1) := by decide +kernel
theorem dX3_foreseen_92 : decode cX3_foreseen 92 = .ok (.if_icmp .ge 21, 3) := by decide +kernel
theorem dX3_foreseen_95 : decode cX3_foreseen 95 = .ok (.aload_n 0, 1) := by decide +kernel
theorem dX3_foreseen_96 : decode cX3_foreseen 96 = .ok (.getfield 39, 3) := by decide +kernel
theorem dX3_foreseen_99 : decode cX3_foreseen 99 = .ok (.aload_n 0, 1) := by decide +kernel
theorem dX3_foreseen_100 : decode cX3_foreseen 100 = .ok (.getfield 12, 3) := by decide +kernel
theorem dX3_foreseen_103 : decode cX3_foreseen 103 = .ok (.iload_n 1, 1) := by decide +kernel
theorem dX3_foreseen_104 : decode cX3_foreseen 104 = .ok (.invokevirtual 69, 3) := by decide +kernel
theorem dX3_foreseen_107 : decode cX3_foreseen 107 = .ok (.iinc 3 1, 3) := by decide +kernel
theorem dX3_foreseen_110 : decode cX3_foreseen 110 = .ok (.goto (-20), 3) := by decide +kernel
theorem dX3_foreseen_113 : decode cX3_foreseen 113 = .ok (.aload_n 0, 1) := by decide +kernel
theorem dX3_foreseen_114 : decode cX3_foreseen 114 = .ok (.getfield 39, 3) := by decide +kernel
theorem dX3_foreseen_117 : decode cX3_foreseen 117 = .ok (.aload_n 0, 1) := by decide +kernel
theorem dX3_foreseen_118 : decode cX3_foreseen 118 = .ok (.getfield 12, 3) := by decide +kernel
theorem dX3_foreseen_121 : decode cX3_foreseen 121 = .ok (.iload_n 1, 1) := by decide +kernel
theorem dX3_foreseen_122 : decode cX3_foreseen 122 = .ok (.aload_n 0, 1) := by decide +kernel
theorem dX3_foreseen_123 : decode cX3_foreseen 123 = .ok (.getfield 32, 3) := by decide +kernel
theorem dX3_foreseen_126 : decode cX3_foreseen 126 = .ok (.getfield 75, 3) := by decide +kernel
theorem dX3_foreseen_129 : decode cX3_foreseen 129 = .ok (.invokevirtual 80, 3) := by decide +kernel
theorem dX3_foreseen_132 : decode cX3_foreseen 132 = .ok (.ireturn, 1) := by decide +kernel
theorem dX3_settled_0 : decode cX3_settled 0 = .ok (.aload_n 0, 1) := by decide +kernel
theorem dX3_settled_1 : decode cX3_settled 1 = .ok (.getfield 36, 3) := by decide +kernel
theorem dX3_settled_4 : decode cX3_settled 4 = .ok (.getfield 62, 3) := by decide +kernel
theorem dX3_settled_7 : decode cX3_settled 7 = .ok (.istore_n 2, 1) := by decide +kernel
theorem dX3_settled_8 : decode cX3_settled 8 = .ok (.iconst 0, 1) := by decide +kernel
theorem dX3_settled_9 : decode cX3_settled 9 = .ok (.istore_n 3, 1) := by decide +kernel
theorem dX3_settled_10 : decode cX3_settled 10 = .ok (.iload_n 3, 1) := by decide +kernel
theorem dX3_settled_11 : decode cX3_settled 11 = .ok (.aload_n 0, 1) := by decide +kernel
theorem dX3_settled_12 : decode cX3_settled 12 = .ok (.getfield 28, 3) := by decide +kernel
theorem dX3_settled_15 : decode cX3_settled 15 = .ok (.getfield 53, 3) := by decide +kernel
theorem dX3_settled_18 : decode cX3_settled 18 = .ok (.if_icmp .ge 72, 3) := by decide +kernel
theorem dX3_settled_21 : decode cX3_settled 21 = .ok (.aload_n 0, 1) := by decide +kernel
theorem dX3_settled_22 : decode cX3_settled 22 = .ok (.getfield 39, 3) := by decide +kernel
theorem dX3_settled_25 : decode cX3_settled 25 = .ok (.iload_n 3, 1) := by decide +kernel
theorem dX3_settled_26 : decode cX3_settled 26 = .ok (.iload_n 1, 1) := by decide +kernel
theorem dX3_settled_27 : decode cX3_settled 27 = .ok (.aload_n 0, 1) := by decide +kernel
theorem dX3_settled_28 : decode cX3_settled 28 = .ok (.getfield 32, 3) := by decide +kernel
theorem dX3_settled_31 : decode cX3_settled 31 = .ok (.getfield 75, 3) := by decide +kernel
theorem dX3_settled_34 : decode cX3_settled 34 = .ok (.invokevirtual 84, 3) := by decide +kernel
theorem dX3_settled_37 : decode cX3_settled 37 = .ok (.ifCond .eq 47, 3) := by decide +kernel
theorem dX3_settled_40 : decode cX3_settled 40 = .ok (.aload_n 0, 1) := by decide +kernel
theorem dX3_settled_41 : decode cX3_settled 41 = .ok (.getfield 32, 3) := by decide +kernel
theorem dX3_settled_44 : decode cX3_settled 44 = .ok (.getfield 75, 3) := by decide +kernel
theorem dX3_settled_47 : decode cX3_settled 47 = .ok (.istore 4, 2) := by decide +kernel
theorem dX3_settled_49 : decode cX3_settled 49 = .ok (.iload 4, 2) := by decide +kernel
theorem dX3_settled_51 : decode cX3_settled 51 = .ok (.iload_n 2, 1) := by decide +kernel
theorem dX3_settled_52 : decode cX3_settled 52 = .ok (.if_icmp .le 25, 3) := by decide +kernel
theorem dX3_settled_55 : decode cX3_settled 55 = .ok (.aload_n 0, 1) := by decide +kernel
theorem dX3_settled_56 : decode cX3_settled 56 = .ok (.getfield 39, 3) := by decide +kernel
theorem dX3_settled_59 : decode cX3_settled 59 = .ok (.iload_n 3, 1) := by decide +kernel
theorem dX3_settled_60 : decode cX3_settled 60 = .ok (.iload_n 1, 1) := by decide +kernel
theorem dX3_settled_61 : decode cX3_settled 61 = .ok (.iload 4, 2) := by decide +kernel
theorem dX3_settled_63 : decode cX3_settled 63 = .ok (.iconst 1, 1) := by decide +kernel
theorem dX3_settled_64 : decode cX3_settled 64 = .ok (.isub, 1) := by decide +kernel
theorem dX3_settled_65 : decode cX3_settled 65 = .ok (.invokevirtual 84, 3) := by decide +kernel
theorem dX3_settled_68 : decode cX3_settled 68 = .ok (.ifCond .eq 9, 3) := by decide +kernel
theorem dX3_settled_71 : decode cX3_settled 71 = .ok (.iinc 4 (-1), 3) := by decide +kernel
theorem dX3_settled_74 : decode cX3_settled 74 = .ok (.goto (-25), 3) := by decide +kernel
theorem dX3_settled_77 : decode cX3_settled 77 = .ok (.iload_n 2, 1) := by decide +kernel
theorem dX3_settled_78 : decode cX3_settled 78 = .ok (.iload 4, 2) := by decide +kernel
theorem dX3_settled_80 : decode cX3_settled 80 = .ok (.invokestatic 88, 3) := by decide +kernel
theorem dX3_settled_83 : decode cX3_settled 83 = .ok (.istore_n 2, 1) := by decide +kernel
theorem dX3_settled_84 : decode cX3_settled 84 = .ok (.iinc 3 1, 3) := by decide +kernel
theorem dX3_settled_87 : decode cX3_settled 87 = .ok (.goto (-77), 3) := by decide +kernel
theorem dX3_settled_90 : decode cX3_settled 90 = .ok (.iload_n 2, 1) := by decide +kernel
theorem dX3_settled_91 : decode cX3_settled 91 = .ok (.ireturn, 1) := by decide +kernel
theorem dX3_search_0 : decode cX3_search 0 = .ok (.iconst 0, 1) := by decide +kernel
theorem dX3_search_1 : decode cX3_search 1 = .ok (.istore_n 2, 1) := by decide +kernel
theorem dX3_search_2 : decode cX3_search 2 = .ok (.iconst 0, 1) := by decide +kernel
theorem dX3_search_3 : decode cX3_search 3 = .ok (.istore_n 3, 1) := by decide +kernel
theorem dX3_search_4 : decode cX3_search 4 = .ok (.iload_n 3, 1) := by decide +kernel
theorem dX3_search_5 : decode cX3_search 5 = .ok (.aload_n 0, 1) := by decide +kernel
theorem dX3_search_6 : decode cX3_search 6 = .ok (.getfield 28, 3) := by decide +kernel
theorem dX3_search_9 : decode cX3_search 9 = .ok (.getfield 53, 3) := by decide +kernel
theorem dX3_search_12 : decode cX3_search 12 = .ok (.if_icmp .ge 33, 3) := by decide +kernel
theorem dX3_search_15 : decode cX3_search 15 = .ok (.iload_n 1, 1) := by decide +kernel
theorem dX3_search_16 : decode cX3_search 16 = .ok (.iload_n 3, 1) := by decide +kernel
theorem dX3_search_17 : decode cX3_search 17 = .ok (.ishr, 1) := by decide +kernel
theorem dX3_search_18 : decode cX3_search 18 = .ok (.iconst 1, 1) := by decide +kernel
theorem dX3_search_19 : decode cX3_search 19 = .ok (.iand, 1) := by decide +kernel
theorem dX3_search_20 : decode cX3_search 20 = .ok (.iconst 1, 1) := by decide +kernel
theorem dX3_search_21 : decode cX3_search 21 = .ok (.if_icmp .ne 18, 3) := by decide +kernel
theorem dX3_search_24 : decode cX3_search 24 = .ok (.iload_n 2, 1) := by decide +kernel
theorem dX3_search_25 : decode cX3_search 25 = .ok (.iconst 4, 1) := by decide +kernel
theorem dX3_search_26 : decode cX3_search 26 = .ok (.if_icmp .ge 13, 3) := by decide +kernel
theorem dX3_search_29 : decode cX3_search 29 = .ok (.aload_n 0, 1) := by decide +kernel
theorem dX3_search_30 : decode cX3_search 30 = .ok (.getfield 25, 3) := by decide +kernel
theorem dX3_search_33 : decode cX3_search 33 = .ok (.iload_n 2, 1) := by decide +kernel
theorem dX3_search_34 : decode cX3_search 34 = .ok (.iinc 2 1, 3) := by decide +kernel
theorem dX3_search_37 : decode cX3_search 37 = .ok (.iload_n 3, 1) := by decide +kernel
theorem dX3_search_38 : decode cX3_search 38 = .ok (.iastore, 1) := by decide +kernel
theorem dX3_search_39 : decode cX3_search 39 = .ok (.iinc 3 1, 3) := by decide +kernel
theorem dX3_search_42 : decode cX3_search 42 = .ok (.goto (-38), 3) := by decide +kernel
theorem dX3_search_45 : decode cX3_search 45 = .ok (.ldc 94, 2) := by decide +kernel
theorem dX3_search_47 : decode cX3_search 47 = .ok (.istore_n 3, 1) := by decide +kernel
theorem dX3_search_48 : decode cX3_search 48 = .ok (.iconst 0, 1) := by decide +kernel
theorem dX3_search_49 : decode cX3_search 49 = .ok (.istore 4, 2) := by decide +kernel
theorem dX3_search_51 : decode cX3_search 51 = .ok (.iload 4, 2) := by decide +kernel
theorem dX3_search_53 : decode cX3_search 53 = .ok (.iload_n 2, 1) := by decide +kernel
theorem dX3_search_54 : decode cX3_search 54 = .ok (.if_icmp .gt 78, 3) := by decide +kernel
theorem dX3_search_57 : decode cX3_search 57 = .ok (.iconst 0, 1) := by decide +kernel
theorem dX3_search_58 : decode cX3_search 58 = .ok (.istore 5, 2) := by decide +kernel
theorem dX3_search_60 : decode cX3_search 60 = .ok (.iload 5, 2) := by decide +kernel
theorem dX3_search_62 : decode cX3_search 62 = .ok (.iconst 1, 1) := by decide +kernel
theorem dX3_search_63 : decode cX3_search 63 = .ok (.iconst 2, 1) := by decide +kernel
theorem dX3_search_64 : decode cX3_search 64 = .ok (.iload_n 2, 1) := by decide +kernel
theorem dX3_search_65 : decode cX3_search 65 = .ok (.imul, 1) := by decide +kernel
theorem dX3_search_66 : decode cX3_search 66 = .ok (.ishl, 1) := by decide +kernel
theorem dX3_search_67 : decode cX3_search 67 = .ok (.if_icmp .ge 59, 3) := by decide +kernel
theorem dX3_search_70 : decode cX3_search 70 = .ok (.iload_n 3, 1) := by decide +kernel
theorem dX3_search_71 : decode cX3_search 71 = .ok (.ifCond .le 55, 3) := by decide +kernel
theorem dX3_search_74 : decode cX3_search 74 = .ok (.aload_n 0, 1) := by decide +kernel
theorem dX3_search_75 : decode cX3_search 75 = .ok (.iload 5, 2) := by decide +kernel
theorem dX3_search_77 : decode cX3_search 77 = .ok (.iload_n 2, 1) := by decide +kernel
theorem dX3_search_78 : decode cX3_search 78 = .ok (.invokevirtual 95, 3) := by decide +kernel
theorem dX3_search_81 : decode cX3_search 81 = .ok (.iload 4, 2) := by decide +kernel
theorem dX3_search_83 : decode cX3_search 83 = .ok (.if_icmp .eq 6, 3) := by decide +kernel
theorem dX3_search_86 : decode cX3_search 86 = .ok (.goto 34, 3) := by decide +kernel
theorem dX3_search_89 : decode cX3_search 89 = .ok (.aload_n 0, 1) := by decide +kernel
theorem dX3_search_90 : decode cX3_search 90 = .ok (.iload_n 3, 1) := by decide +kernel
theorem dX3_search_91 : decode cX3_search 91 = .ok (.invokevirtual 98, 3) := by decide +kernel
theorem dX3_search_94 : decode cX3_search 94 = .ok (.istore 6, 2) := by decide +kernel
theorem dX3_search_96 : decode cX3_search 96 = .ok (.iload 6, 2) := by decide +kernel
theorem dX3_search_98 : decode cX3_search 98 = .ok (.iload_n 3, 1) := by decide +kernel
theorem dX3_search_99 : decode cX3_search 99 = .ok (.if_icmp .ge 21, 3) := by decide +kernel
theorem dX3_search_102 : decode cX3_search 102 = .ok (.iload 6, 2) := by decide +kernel
theorem dX3_search_104 : decode cX3_search 104 = .ok (.istore_n 3, 1) := by decide +kernel
theorem dX3_search_105 : decode cX3_search 105 = .ok (.aload_n 0, 1) := by decide +kernel
theorem dX3_search_106 : decode cX3_search 106 = .ok (.getfield 18, 3) := by decide +kernel
theorem dX3_search_109 : decode cX3_search 109 = .ok (.iconst 0, 1) := by decide +kernel
theorem dX3_search_110 : decode cX3_search 110 = .ok (.aload_n 0, 1) := by decide +kernel
theorem dX3_search_111 : decode cX3_search 111 = .ok (.getfield 22, 3) := by decide +kernel
theorem dX3_search_114 : decode cX3_search 114 = .ok (.iconst 0, 1) := by decide +kernel
theorem dX3_search_115 : decode cX3_search 115 = .ok (.bipush 6, 2) := by decide +kernel
theorem dX3_search_117 : decode cX3_search 117 = .ok (.invokestatic 101, 3) := by decide +kernel
theorem dX3_search_120 : decode cX3_search 120 = .ok (.iinc 5 1, 3) := by decide +kernel
theorem dX3_search_123 : decode cX3_search 123 = .ok (.goto (-63), 3) := by decide +kernel
theorem dX3_search_126 : decode cX3_search 126 = .ok (.iinc 4 1, 3) := by decide +kernel
theorem dX3_search_129 : decode cX3_search 129 = .ok (.goto (-78), 3) := by decide +kernel
theorem dX3_search_132 : decode cX3_search 132 = .ok (.iload_n 3, 1) := by decide +kernel
theorem dX3_search_133 : decode cX3_search 133 = .ok (.i2l, 1) := by decide +kernel
theorem dX3_search_134 : decode cX3_search 134 = .ok (.lreturn, 1) := by decide +kernel
theorem dX3_plan_0 : decode cX3_plan 0 = .ok (.aload_n 0, 1) := by decide +kernel
theorem dX3_plan_1 : decode cX3_plan 1 = .ok (.getfield 18, 3) := by decide +kernel
theorem dX3_plan_4 : decode cX3_plan 4 = .ok (.iconst (-1), 1) := by decide +kernel
theorem dX3_plan_5 : decode cX3_plan 5 = .ok (.invokestatic 43, 3) := by decide +kernel
theorem dX3_plan_8 : decode cX3_plan 8 = .ok (.iconst 0, 1) := by decide +kernel
theorem dX3_plan_9 : decode cX3_plan 9 = .ok (.istore_n 3, 1) := by decide +kernel
theorem dX3_plan_10 : decode cX3_plan 10 = .ok (.iconst 0, 1) := by decide +kernel
theorem dX3_plan_11 : decode cX3_plan 11 = .ok (.istore 4, 2) := by decide +kernel
theorem dX3_plan_13 : decode cX3_plan 13 = .ok (.iload 4, 2) := by decide +kernel
theorem dX3_plan_15 : decode cX3_plan 15 = .ok (.iload_n 2, 1) := by decide +kernel
theorem dX3_plan_16 : decode cX3_plan 16 = .ok (.if_icmp .ge 72, 3) := by decide +kernel
theorem dX3_plan_19 : decode cX3_plan 19 = .ok (.iload_n 1, 1) := by decide +kernel
theorem dX3_plan_20 : decode cX3_plan 20 = .ok (.iconst 2, 1) := by decide +kernel
theorem dX3_plan_21 : decode cX3_plan 21 = .ok (.iload_n 2, 1) := by decide +kernel
theorem dX3_plan_22 : decode cX3_plan 22 = .ok (.iconst 1, 1) := by decide +kernel
theorem dX3_plan_23 : decode cX3_plan 23 = .ok (.isub, 1) := by decide +kernel
theorem dX3_plan_24 : decode cX3_plan 24 = .ok (.iload 4, 2) := by decide +kernel
theorem dX3_plan_26 : decode cX3_plan 26 = .ok (.isub, 1) := by decide +kernel
theorem dX3_plan_27 : decode cX3_plan 27 = .ok (.imul, 1) := by decide +kernel
theorem dX3_plan_28 : decode cX3_plan 28 = .ok (.ishr, 1) := by decide +kernel
theorem dX3_plan_29 : decode cX3_plan 29 = .ok (.iconst 3, 1) := by decide +kernel
theorem dX3_plan_30 : decode cX3_plan 30 = .ok (.iand, 1) := by decide +kernel
theorem dX3_plan_31 : decode cX3_plan 31 = .ok (.istore 5, 2) := by decide +kernel
theorem dX3_plan_33 : decode cX3_plan 33 = .ok (.iload 5, 2) := by decide +kernel
theorem dX3_plan_35 : decode cX3_plan 35 = .ok (.iconst 3, 1) := by decide +kernel
theorem dX3_plan_36 : decode cX3_plan 36 = .ok (.if_icmp .ge 46, 3) := by decide +kernel
theorem dX3_plan_39 : decode cX3_plan 39 = .ok (.aload_n 0, 1) := by decide +kernel
theorem dX3_plan_40 : decode cX3_plan 40 = .ok (.getfield 36, 3) := by decide +kernel
theorem dX3_plan_43 : decode cX3_plan 43 = .ok (.getfield 62, 3) := by decide +kernel
theorem dX3_plan_46 : decode cX3_plan 46 = .ok (.iload 5, 2) := by decide +kernel
theorem dX3_plan_48 : decode cX3_plan 48 = .ok (.iconst 4, 1) := by decide +kernel
theorem dX3_plan_49 : decode cX3_plan 49 = .ok (.imul, 1) := by decide +kernel
theorem dX3_plan_50 : decode cX3_plan 50 = .ok (.iadd, 1) := by decide +kernel
theorem dX3_plan_51 : decode cX3_plan 51 = .ok (.aload_n 0, 1) := by decide +kernel
theorem dX3_plan_52 : decode cX3_plan 52 = .ok (.getfield 32, 3) := by decide +kernel
theorem dX3_plan_55 : decode cX3_plan 55 = .ok (.getfield 75, 3) := by decide +kernel
theorem dX3_plan_58 : decode cX3_plan 58 = .ok (.if_icmp .le 5, 3) := by decide +kernel
theorem dX3_plan_61 : decode cX3_plan 61 = .ok (.iconst (-1), 1) := by decide +kernel
theorem dX3_plan_62 : decode cX3_plan 62 = .ok (.ireturn, 1) := by decide +kernel
theorem dX3_plan_63 : decode cX3_plan 63 = .ok (.aload_n 0, 1) := by decide +kernel
theorem dX3_plan_64 : decode cX3_plan 64 = .ok (.getfield 18, 3) := by decide +kernel
theorem dX3_plan_67 : decode cX3_plan 67 = .ok (.aload_n 0, 1) := by decide +kernel
theorem dX3_plan_68 : decode cX3_plan 68 = .ok (.getfield 25, 3) := by decide +kernel
theorem dX3_plan_71 : decode cX3_plan 71 = .ok (.iload 4, 2) := by decide +kernel
theorem dX3_plan_73 : decode cX3_plan 73 = .ok (.iaload, 1) := by decide +kernel
theorem dX3_plan_74 : decode cX3_plan 74 = .ok (.iload 5, 2) := by decide +kernel
theorem dX3_plan_76 : decode cX3_plan 76 = .ok (.iconst 4, 1) := by decide +kernel
theorem dX3_plan_77 : decode cX3_plan 77 = .ok (.imul, 1) := by decide +kernel
theorem dX3_plan_78 : decode cX3_plan 78 = .ok (.iastore, 1) := by decide +kernel
theorem dX3_plan_79 : decode cX3_plan 79 = .ok (.iinc 3 1, 3) := by decide +kernel
theorem dX3_plan_82 : decode cX3_plan 82 = .ok (.iinc 4 1, 3) := by decide +kernel
theorem dX3_plan_85 : decode cX3_plan 85 = .ok (.goto (-72), 3) := by decide +kernel
theorem dX3_plan_88 : decode cX3_plan 88 = .ok (.iload_n 3, 1) := by decide +kernel
theorem dX3_plan_89 : decode cX3_plan 89 = .ok (.ireturn, 1) := by decide +kernel
theorem dX3_worst_0 : decode cX3_worst 0 = .ok (.iconst 0, 1) := by decide +kernel
theorem dX3_worst_1 : decode cX3_worst 1 = .ok (.istore_n 2, 1) := by decide +kernel
theorem dX3_worst_2 : decode cX3_worst 2 = .ok (.iconst 0, 1) := by decide +kernel
theorem dX3_worst_3 : decode cX3_worst 3 = .ok (.istore_n 3, 1) := by decide +kernel
theorem dX3_worst_4 : decode cX3_worst 4 = .ok (.iload_n 3, 1) := by decide +kernel
theorem dX3_worst_5 : decode cX3_worst 5 = .ok (.iconst 3, 1) := by decide +kernel
theorem dX3_worst_6 : decode cX3_worst 6 = .ok (.if_icmp .ge 36, 3) := by decide +kernel
theorem dX3_worst_9 : decode cX3_worst 9 = .ok (.iload_n 2, 1) := by decide +kernel
theorem dX3_worst_10 : decode cX3_worst 10 = .ok (.iload_n 1, 1) := by decide +kernel
theorem dX3_worst_11 : decode cX3_worst 11 = .ok (.if_icmp .ge 31, 3) := by decide +kernel
theorem dX3_worst_14 : decode cX3_worst 14 = .ok (.aload_n 0, 1) := by decide +kernel
theorem dX3_worst_15 : decode cX3_worst 15 = .ok (.getfield 32, 3) := by decide +kernel
theorem dX3_worst_18 : decode cX3_worst 18 = .ok (.getfield 107, 3) := by decide +kernel
theorem dX3_worst_21 : decode cX3_worst 21 = .ok (.iload_n 3, 1) := by decide +kernel
theorem dX3_worst_22 : decode cX3_worst 22 = .ok (.baload, 1) := by decide +kernel
theorem dX3_worst_23 : decode cX3_worst 23 = .ok (.ifCond .eq 13, 3) := by decide +kernel
theorem dX3_worst_26 : decode cX3_worst 26 = .ok (.iload_n 2, 1) := by decide +kernel
theorem dX3_worst_27 : decode cX3_worst 27 = .ok (.aload_n 0, 1) := by decide +kernel
theorem dX3_worst_28 : decode cX3_worst 28 = .ok (.iload_n 3, 1) := by decide +kernel
theorem dX3_worst_29 : decode cX3_worst 29 = .ok (.invokevirtual 111, 3) := by decide +kernel
theorem dX3_worst_32 : decode cX3_worst 32 = .ok (.invokestatic 88, 3) := by decide +kernel
theorem dX3_worst_35 : decode cX3_worst 35 = .ok (.istore_n 2, 1) := by decide +kernel
theorem dX3_worst_36 : decode cX3_worst 36 = .ok (.iinc 3 1, 3) := by decide +kernel
theorem dX3_worst_39 : decode cX3_worst 39 = .ok (.goto (-35), 3) := by decide +kernel
theorem dX3_worst_42 : decode cX3_worst 42 = .ok (.iload_n 2, 1) := by decide +kernel
theorem dX3_worst_43 : decode cX3_worst 43 = .ok (.ireturn, 1) := by decide +kernel
theorem dX4_init_0 : decode cX4_init 0 = .ok (.aload_n 0, 1) := by decide +kernel
theorem dX4_init_1 : decode cX4_init 1 = .ok (.invokespecial 3, 3) := by decide +kernel
theorem dX4_init_4 : decode cX4_init 4 = .ok (.aload_n 0, 1) := by decide +kernel
theorem dX4_init_5 : decode cX4_init 5 = .ok (.bipush 6, 2) := by decide +kernel
theorem dX4_init_7 : decode cX4_init 7 = .ok (.newarray .int, 2) := by decide +kernel
theorem dX4_init_9 : decode cX4_init 9 = .ok (.putfield 9, 3) := by decide +kernel
theorem dX4_init_12 : decode cX4_init 12 = .ok (.aload_n 0, 1) := by decide +kernel
theorem dX4_init_13 : decode cX4_init 13 = .ok (.bipush 14, 2) := by decide +kernel
theorem dX4_init_15 : decode cX4_init 15 = .ok (.newarray .int, 2) := by decide +kernel
theorem dX4_init_17 : decode cX4_init 17 = .ok (.putfield 15, 3) := by decide +kernel
theorem dX4_init_20 : decode cX4_init 20 = .ok (.aload_n 0, 1) := by decide +kernel
theorem dX4_init_21 : decode cX4_init 21 = .ok (.aload_n 1, 1) := by decide +kernel
theorem dX4_init_22 : decode cX4_init 22 = .ok (.putfield 18, 3) := by decide +kernel
theorem dX4_init_25 : decode cX4_init 25 = .ok (.aload_n 0, 1) := by decide +kernel
theorem dX4_init_26 : decode cX4_init 26 = .ok (.aload_n 2, 1) := by decide +kernel
theorem dX4_init_27 : decode cX4_init 27 = .ok (.putfield 22, 3) := by decide +kernel
theorem dX4_init_30 : decode cX4_init 30 = .ok (.aload_n 0, 1) := by decide +kernel
theorem dX4_init_31 : decode cX4_init 31 = .ok (.aload_n 3, 1) := by decide +kernel
theorem dX4_init_32 : decode cX4_init 32 = .ok (.putfield 26, 3) := by decide +kernel
theorem dX4_init_35 : decode cX4_init 35 = .ok (.aload_n 0, 1) := by decide +kernel
theorem dX4_init_36 : decode cX4_init 36 = .ok (.aload 4, 2) := by decide +kernel
theorem dX4_init_38 : decode cX4_init 38 = .ok (.putfield 30, 3) := by decide +kernel
theorem dX4_init_41 : decode cX4_init 41 = .ok (.aload_n 0, 1) := by decide +kernel
theorem dX4_init_42 : decode cX4_init 42 = .ok (.aload 5, 2) := by decide +kernel
theorem dX4_init_44 : decode cX4_init 44 = .ok (.putfield 34, 3) := by decide +kernel
theorem dX4_init_47 : decode cX4_init 47 = .ok (.return_, 1) := by decide +kernel
theorem dX4_isWet_0 : decode cX4_isWet 0 = .ok (.aload_n 0, 1) := by decide +kernel
theorem dX4_isWet_1 : decode cX4_isWet 1 = .ok (.getfield 30, 3) := by decide +kernel
theorem dX4_isWet_4 : decode cX4_isWet 4 = .ok (.getfield 38, 3) := by decide +kernel
theorem dX4_isWet_7 : decode cX4_isWet 7 = .ok (.iload_n 2, 1) := by decide +kernel
theorem dX4_isWet_8 : decode cX4_isWet 8 = .ok (.aaload, 1) := by decide +kernel
theorem dX4_isWet_9 : decode cX4_isWet 9 = .ok (.iload_n 3, 1) := by decide +kernel
theorem dX4_isWet_10 : decode cX4_isWet 10 = .ok (.iaload, 1) := by decide +kernel
theorem dX4_isWet_11 : decode cX4_isWet 11 = .ok (.aload_n 0, 1) := by decide +kernel
theorem dX4_isWet_12 : decode cX4_isWet 12 = .ok (.getfield 18, 3) := by decide +kernel
theorem dX4_isWet_15 : decode cX4_isWet 15 = .ok (.getfield 44, 3) := by decide +kernel
theorem dX4_isWet_18 : decode cX4_isWet 18 = .ok (.iload_n 1, 1) := by decide +kernel
theorem dX4_isWet_19 : decode cX4_isWet 19 = .ok (.iaload, 1) := by decide +kernel
theorem dX4_isWet_20 : decode cX4_isWet 20 = .ok (.if_icmp .le 7, 3) := by decide +kernel
theorem dX4_isWet_23 : decode cX4_isWet 23 = .ok (.iconst 1, 1) := by decide +kernel
theorem dX4_isWet_24 : decode cX4_isWet 24 = .ok (.goto 4, 3) := by decide +kernel
theorem dX4_isWet_27 : decode cX4_isWet 27 = .ok (.iconst 0, 1) := by decide +kernel
theorem dX4_isWet_28 : decode cX4_isWet 28 = .ok (.ireturn, 1) := by decide +kernel
theorem dX4_openFlow_0 : decode cX4_openFlow 0 = .ok (.aload_n 0, 1) := by decide +kernel
theorem dX4_openFlow_1 : decode cX4_openFlow 1 = .ok (.getfield 22, 3) := by decide +kernel
theorem dX4_openFlow_4 : decode cX4_openFlow 4 = .ok (.getfield 49, 3) := by decide +kernel
theorem dX4_openFlow_7 : decode cX4_openFlow 7 = .ok (.iload_n 1, 1) := by decide +kernel
theorem dX4_openFlow_8 : decode cX4_openFlow 8 = .ok (.iaload, 1) := by decide +kernel
theorem dX4_openFlow_9 : decode cX4_openFlow 9 = .ok (.istore 4, 2) := by decide +kernel
theorem dX4_openFlow_11 : decode cX4_openFlow 11 = .ok (.aload_n 0, 1) := by decide +kernel
theorem dX4_openFlow_12 : decode cX4_openFlow 12 = .ok (.aload_n 0, 1) := by decide +kernel
theorem dX4_openFlow_13 : decode cX4_openFlow 13 = .ok (.getfield 22, 3) := by decide +kernel
theorem dX4_openFlow_16 : decode cX4_openFlow 16 = .ok (.getfield 54, 3) := by decide +kernel
theorem dX4_openFlow_19 : decode cX4_openFlow 19 = .ok (.iload_n 1, 1) := by decide +kernel
theorem dX4_openFlow_20 : decode cX4_openFlow 20 = .ok (.iaload, 1) := by decide +kernel
theorem dX4_openFlow_21 : decode cX4_openFlow 21 = .ok (.iload_n 2, 1) := by decide +kernel
theorem dX4_openFlow_22 : decode cX4_openFlow 22 = .ok (.iload_n 3, 1) := by decide +kernel
theorem dX4_openFlow_23 : decode cX4_openFlow 23 = .ok (.invokevirtual 57, 3) := by decide +kernel
theorem dX4_openFlow_26 : decode cX4_openFlow 26 = .ok (.ifCond .ne 21, 3) := by decide +kernel
theorem dX4_openFlow_29 : decode cX4_openFlow 29 = .ok (.iload 4, 2) := by decide +kernel
theorem dX4_openFlow_31 : decode cX4_openFlow 31 = .ok (.bipush 6, 2) := by decide +kernel
theorem dX4_openFlow_33 : decode cX4_openFlow 33 = .ok (.if_icmp .ge 16, 3) := by decide +kernel
theorem dX4_openFlow_36 : decode cX4_openFlow 36 = .ok (.aload_n 0, 1) := by decide +kernel
theorem dX4_openFlow_37 : decode cX4_openFlow 37 = .ok (.iload 4, 2) := by decide +kernel
theorem dX4_openFlow_39 : decode cX4_openFlow 39 = .ok (.iload_n 2, 1) := by decide +kernel
theorem dX4_openFlow_40 : decode cX4_openFlow 40 = .ok (.iload_n 3, 1) := by decide +kernel
theorem dX4_openFlow_41 : decode cX4_openFlow 41 = .ok (.invokevirtual 57, 3) := by decide +kernel
theorem dX4_openFlow_44 : decode cX4_openFlow 44 = .ok (.ifCond .eq 5, 3) := by decide +kernel
theorem dX4_openFlow_47 : decode cX4_openFlow 47 = .ok (.iconst 0, 1) := by decide +kernel
theorem dX4_openFlow_48 : decode cX4_openFlow 48 = .ok (.ireturn, 1) := by decide +kernel
theorem dX4_openFlow_49 : decode cX4_openFlow 49 = .ok (.aload_n 0, 1) := by decide +kernel
theorem dX4_openFlow_50 : decode cX4_openFlow 50 = .ok (.getfield 22, 3) := by decide +kernel
theorem dX4_openFlow_53 : decode cX4_openFlow 53 = .ok (.iload_n 1, 1) := by decide +kernel
theorem dX4_openFlow_54 : decode cX4_openFlow 54 = .ok (.iload_n 3, 1) := by decide +kernel
theorem dX4_openFlow_55 : decode cX4_openFlow 55 = .ok (.aload_n 0, 1) := by decide +kernel
theorem dX4_openFlow_56 : decode cX4_openFlow 56 = .ok (.getfield 30, 3) := by decide +kernel
theorem dX4_openFlow_59 : decode cX4_openFlow 59 = .ok (.getfield 61, 3) := by decide +kernel
theorem dX4_openFlow_62 : decode cX4_openFlow 62 = .ok (.iload_n 2, 1) := by decide +kernel
theorem dX4_openFlow_63 : decode cX4_openFlow 63 = .ok (.aaload, 1) := by decide +kernel
theorem dX4_openFlow_64 : decode cX4_openFlow 64 = .ok (.iload_n 3, 1) := by decide +kernel
theorem dX4_openFlow_65 : decode cX4_openFlow 65 = .ok (.iaload, 1) := by decide +kernel
theorem dX4_openFlow_66 : decode cX4_openFlow 66 = .ok (.invokevirtual 64, 3) := by decide +kernel
theorem dX4_openFlow_69 : decode cX4_openFlow 69 = .ok (.ireturn, 1) := by decide +kernel
theorem dX4_standInWater_0 : decode cX4_standInWater 0 = .ok (.iconst 0, 1) := by decide +kernel
theorem dX4_standInWater_1 : decode cX4_standInWater 1 = .ok (.istore 4, 2) := by decide +kernel
theorem dX4_standInWater_3 : decode cX4_standInWater 3 = .ok (.iconst 0, 1) := by decide +kernel
theorem dX4_standInWater_4 : decode cX4_standInWater 4 = .ok (.istore 5, 2) := by decide +kernel
theorem dX4_standInWater_6 : decode cX4_standInWater 6 = .ok (.iload 5, 2) := by decide +kernel
theorem dX4_standInWater_8 : decode cX4_standInWater 8 = .ok (.aload_n 0, 1) := by decide +kernel
theorem dX4_standInWater_9 : decode cX4_standInWater 9 = .ok (.getfield 18, 3) := by decide +kernel
theorem dX4_standInWater_12 : decode cX4_standInWater 12 = .ok (.getfield 68, 3) := by decide +kernel
theorem dX4_standInWater_15 : decode cX4_standInWater 15 = .ok (.if_icmp .ge 48, 3) := by decide +kernel
theorem dX4_standInWater_18 : decode cX4_standInWater 18 = .ok (.aload_n 0, 1) := by decide +kernel
theorem dX4_standInWater_19 : decode cX4_standInWater 19 = .ok (.iload 5, 2) := by decide +kernel
theorem dX4_standInWater_21 : decode cX4_standInWater 21 = .ok (.iload_n 2, 1) := by decide +kernel
theorem dX4_standInWater_22 : decode cX4_standInWater 22 = .ok (.iload_n 3, 1) := by decide +kernel
theorem dX4_standInWater_23 : decode cX4_standInWater 23 = .ok (.invokevirtual 57, 3) := by decide +kernel
theorem dX4_standInWater_26 : decode cX4_standInWater 26 = .ok (.ifCond .eq 31, 3) := by decide +kernel
theorem dX4_standInWater_29 : decode cX4_standInWater 29 = .ok (.iload 4, 2) := by decide +kernel
theorem dX4_standInWater_31 : decode cX4_standInWater 31 = .ok (.aload_n 1, 1) := by decide +kernel
theorem dX4_standInWater_32 : decode cX4_standInWater 32 = .ok (.getfield 72, 3) := by decide +kernel
theorem dX4_standInWater_35 : decode cX4_standInWater 35 = .ok (.iload 5, 2) := by decide +kernel
theorem dX4_standInWater_37 : decode cX4_standInWater 37 = .ok (.iaload, 1) := by decide +kernel
theorem dX4_standInWater_38 : decode cX4_standInWater 38 = .ok (.aload_n 1, 1) := by decide +kernel
theorem dX4_standInWater_39 : decode cX4_standInWater 39 = .ok (.getfield 77, 3) := by decide +kernel
theorem dX4_standInWater_42 : decode cX4_standInWater 42 = .ok (.iload 5, 2) := by decide +kernel
theorem dX4_standInWater_44 : decode cX4_standInWater 44 = .ok (.iaload, 1) := by decide +kernel
theorem dX4_standInWater_45 : decode cX4_standInWater 45 = .ok (.iadd, 1) := by decide +kernel
theorem dX4_standInWater_46 : decode cX4_standInWater 46 = .ok (.aload_n 1, 1) := by decide +kernel
theorem dX4_standInWater_47 : decode cX4_standInWater 47 = .ok (.getfield 80, 3) := by decide +kernel
theorem dX4_standInWater_50 : decode cX4_standInWater 50 = .ok (.iload 5, 2) := by decide +kernel
theorem dX4_standInWater_52 : decode cX4_standInWater 52 = .ok (.iaload, 1) := by decide +kernel
theorem dX4_standInWater_53 : decode cX4_standInWater 53 = .ok (.iadd, 1) := by decide +kernel
theorem dX4_standInWater_54 : decode cX4_standInWater 54 = .ok (.iadd, 1) := by decide +kernel
theorem dX4_standInWater_55 : decode cX4_standInWater 55 = .ok (.istore 4, 2) := by decide +kernel
theorem dX4_standInWater_57 : decode cX4_standInWater 57 = .ok (.iinc 5 1, 3) := by decide +kernel
theorem dX4_standInWater_60 : decode cX4_standInWater 60 = .ok (.goto (-54), 3) := by decide +kernel
theorem dX4_standInWater_63 : decode cX4_standInWater 63 = .ok (.iload 4, 2) := by decide +kernel
theorem dX4_standInWater_65 : decode cX4_standInWater 65 = .ok (.ireturn, 1) := by decide +kernel
theorem dX4_gather_0 : decode cX4_gather 0 = .ok (.aload_n 0, 1) := by decide +kernel
theorem dX4_gather_1 : decode cX4_gather 1 = .ok (.getfield 9, 3) := by decide +kernel
theorem dX4_gather_4 : decode cX4_gather 4 = .ok (.iconst 0, 1) := by decide +kernel
theorem dX4_gather_5 : decode cX4_gather 5 = .ok (.aload_n 1, 1) := by decide +kernel
theorem dX4_gather_6 : decode cX4_gather 6 = .ok (.iload_n 2, 1) := by decide +kernel
theorem dX4_gather_7 : decode cX4_gather 7 = .ok (.invokevirtual 83, 3) := by decide +kernel
theorem dX4_gather_10 : decode cX4_gather 10 = .ok (.ifCond .eq 17, 3) := by decide +kernel
theorem dX4_gather_13 : decode cX4_gather 13 = .ok (.aload_n 1, 1) := by decide +kernel
theorem dX4_gather_14 : decode cX4_gather 14 = .ok (.getfield 87, 3) := by decide +kernel
theorem dX4_gather_17 : decode cX4_gather 17 = .ok (.aload_n 1, 1) := by decide +kernel
theorem dX4_gather_18 : decode cX4_gather 18 = .ok (.getfield 90, 3) := by decide +kernel
theorem dX4_gather_21 : decode cX4_gather 21 = .ok (.iload_n 2, 1) := by decide +kernel
theorem dX4_gather_22 : decode cX4_gather 22 = .ok (.iaload, 1) := by decide +kernel
theorem dX4_gather_23 : decode cX4_gather 23 = .ok (.isub, 1) := by decide +kernel
theorem dX4_gather_24 : decode cX4_gather 24 = .ok (.goto 4, 3) := by decide +kernel
theorem dX4_gather_27 : decode cX4_gather 27 = .ok (.iconst 0, 1) := by decide +kernel
theorem dX4_gather_28 : decode cX4_gather 28 = .ok (.iastore, 1) := by decide +kernel
theorem dX4_gather_29 : decode cX4_gather 29 = .ok (.aload_n 0, 1) := by decide +kernel
theorem dX4_gather_30 : decode cX4_gather 30 = .ok (.getfield 9, 3) := by decide +kernel
theorem dX4_gather_33 : decode cX4_gather 33 = .ok (.iconst 1, 1) := by decide +kernel
theorem dX4_gather_34 : decode cX4_gather 34 = .ok (.aload_n 0, 1) := by decide +kernel
theorem dX4_gather_35 : decode cX4_gather 35 = .ok (.getfield 18, 3) := by decide +kernel
theorem dX4_gather_38 : decode cX4_gather 38 = .ok (.getfield 44, 3) := by decide +kernel
theorem dX4_gather_41 : decode cX4_gather 41 = .ok (.iload_n 2, 1) := by decide +kernel
theorem dX4_gather_42 : decode cX4_gather 42 = .ok (.iaload, 1) := by decide +kernel
theorem dX4_gather_43 : decode cX4_gather 43 = .ok (.iastore, 1) := by decide +kernel
theorem dX4_gather_44 : decode cX4_gather 44 = .ok (.aload_n 0, 1) := by decide +kernel
theorem dX4_gather_45 : decode cX4_gather 45 = .ok (.getfield 9, 3) := by decide +kernel
theorem dX4_gather_48 : decode cX4_gather 48 = .ok (.iconst 2, 1) := by decide +kernel
theorem dX4_gather_49 : decode cX4_gather 49 = .ok (.aload_n 0, 1) := by decide +kernel
theorem dX4_gather_50 : decode cX4_gather 50 = .ok (.getfield 30, 3) := by decide +kernel
theorem dX4_gather_53 : decode cX4_gather 53 = .ok (.getfield 61, 3) := by decide +kernel
theorem dX4_gather_56 : decode cX4_gather 56 = .ok (.iload_n 3, 1) := by decide +kernel
theorem dX4_gather_57 : decode cX4_gather 57 = .ok (.aaload, 1) := by decide +kernel
theorem dX4_gather_58 : decode cX4_gather 58 = .ok (.aload_n 1, 1) := by decide +kernel
theorem dX4_gather_59 : decode cX4_gather 59 = .ok (.getfield 87, 3) := by decide +kernel
theorem dX4_gather_62 : decode cX4_gather 62 = .ok (.iaload, 1) := by decide +kernel
theorem dX4_gather_63 : decode cX4_gather 63 = .ok (.iastore, 1) := by decide +kernel
theorem dX4_gather_64 : decode cX4_gather 64 = .ok (.aload_n 0, 1) := by decide +kernel
theorem dX4_gather_65 : decode cX4_gather 65 = .ok (.getfield 9, 3) := by decide +kernel
theorem dX4_gather_68 : decode cX4_gather 68 = .ok (.iconst 3, 1) := by decide +kernel
theorem dX4_gather_69 : decode cX4_gather 69 = .ok (.aload_n 1, 1) := by decide +kernel
theorem dX4_gather_70 : decode cX4_gather 70 = .ok (.getfield 72, 3) := by decide +kernel
theorem dX4_gather_73 : decode cX4_gather 73 = .ok (.iload_n 2, 1) := by decide +kernel
theorem dX4_gather_74 : decode cX4_gather 74 = .ok (.iaload, 1) := by decide +kernel
theorem dX4_gather_75 : decode cX4_gather 75 = .ok (.iastore, 1) := by decide +kernel
theorem dX4_gather_76 : decode cX4_gather 76 = .ok (.aload_n 0, 1) := by decide +kernel
theorem dX4_gather_77 : decode cX4_gather 77 = .ok (.getfield 9, 3) := by decide +kernel
theorem dX4_gather_80 : decode cX4_gather 80 = .ok (.iconst 4, 1) := by decide +kernel
theorem dX4_gather_81 : decode cX4_gather 81 = .ok (.aload_n 1, 1) := by decide +kernel
theorem dX4_gather_82 : decode cX4_gather 82 = .ok (.getfield 77, 3) := by decide +kernel
theorem dX4_gather_85 : decode cX4_gather 85 = .ok (.iload_n 2, 1) := by decide +kernel
theorem dX4_gather_86 : decode cX4_gather 86 = .ok (.iaload, 1) := by decide +kernel
theorem dX4_gather_87 : decode cX4_gather 87 = .ok (.iastore, 1) := by decide +kernel
theorem dX4_gather_88 : decode cX4_gather 88 = .ok (.aload_n 0, 1) := by decide +kernel
theorem dX4_gather_89 : decode cX4_gather 89 = .ok (.getfield 9, 3) := by decide +kernel
theorem dX4_gather_92 : decode cX4_gather 92 = .ok (.iconst 5, 1) := by decide +kernel
theorem dX4_gather_93 : decode cX4_gather 93 = .ok (.iload_n 2, 1) := by decide +kernel
theorem dX4_gather_94 : decode cX4_gather 94 = .ok (.iastore, 1) := by decide +kernel
theorem dX4_gather_95 : decode cX4_gather 95 = .ok (.return_, 1) := by decide +kernel
theorem dX4_goBy_0 : decode cX4_goBy 0 = .ok (.aload_n 0, 1) := by decide +kernel
theorem dX4_goBy_1 : decode cX4_goBy 1 = .ok (.aload_n 1, 1) := by decide +kernel
theorem dX4_goBy_2 : decode cX4_goBy 2 = .ok (.iload_n 2, 1) := by decide +kernel
theorem dX4_goBy_3 : decode cX4_goBy 3 = .ok (.invokevirtual 93, 3) := by decide +kernel
theorem dX4_goBy_6 : decode cX4_goBy 6 = .ok (.aload_n 0, 1) := by decide +kernel
theorem dX4_goBy_7 : decode cX4_goBy 7 = .ok (.aload_n 1, 1) := by decide +kernel
theorem dX4_goBy_8 : decode cX4_goBy 8 = .ok (.iload_n 2, 1) := by decide +kernel
theorem dX4_goBy_9 : decode cX4_goBy 9 = .ok (.invokevirtual 97, 3) := by decide +kernel
theorem dX4_goBy_12 : decode cX4_goBy 12 = .ok (.aload_n 0, 1) := by decide +kernel
theorem dX4_goBy_13 : decode cX4_goBy 13 = .ok (.aload_n 1, 1) := by decide +kernel
theorem dX4_goBy_14 : decode cX4_goBy 14 = .ok (.invokevirtual 100, 3) := by decide +kernel
theorem dX4_goBy_17 : decode cX4_goBy 17 = .ok (.aload_n 0, 1) := by decide +kernel
theorem dX4_goBy_18 : decode cX4_goBy 18 = .ok (.aload_n 1, 1) := by decide +kernel
theorem dX4_goBy_19 : decode cX4_goBy 19 = .ok (.iload_n 2, 1) := by decide +kernel
theorem dX4_goBy_20 : decode cX4_goBy 20 = .ok (.invokevirtual 104, 3) := by decide +kernel
theorem dX4_goBy_23 : decode cX4_goBy 23 = .ok (.aload_n 1, 1) := by decide +kernel
theorem dX4_goBy_24 : decode cX4_goBy 24 = .ok (.dup, 1) := by decide +kernel
theorem dX4_goBy_25 : decode cX4_goBy 25 = .ok (.getfield 87, 3) := by decide +kernel
theorem dX4_goBy_28 : decode cX4_goBy 28 = .ok (.iconst 1, 1) := by decide +kernel
theorem dX4_goBy_29 : decode cX4_goBy 29 = .ok (.iadd, 1) := by decide +kernel
theorem dX4_goBy_30 : decode cX4_goBy 30 = .ok (.putfield 87, 3) := by decide +kernel
theorem dX4_goBy_33 : decode cX4_goBy 33 = .ok (.aload_n 0, 1) := by decide +kernel
theorem dX4_goBy_34 : decode cX4_goBy 34 = .ok (.aload_n 1, 1) := by decide +kernel
theorem dX4_goBy_35 : decode cX4_goBy 35 = .ok (.invokevirtual 107, 3) := by decide +kernel
theorem dX4_goBy_38 : decode cX4_goBy 38 = .ok (.return_, 1) := by decide +kernel
theorem dX4_setOut_0 : decode cX4_setOut 0 = .ok (.iconst 0, 1) := by decide +kernel
theorem dX4_setOut_1 : decode cX4_setOut 1 = .ok (.istore_n 3, 1) := by decide +kernel
theorem dX4_setOut_2 : decode cX4_setOut 2 = .ok (.iload_n 3, 1) := by decide +kernel
theorem dX4_setOut_3 : decode cX4_setOut 3 = .ok (.aload_n 0, 1) := by decide +kernel
theorem dX4_setOut_4 : decode cX4_setOut 4 = .ok (.getfield 18, 3) := by decide +kernel
theorem dX4_setOut_7 : decode cX4_setOut 7 = .ok (.getfield 68, 3) := by decide +kernel
theorem dX4_setOut_10 : decode cX4_setOut 10 = .ok (.if_icmp .ge 123, 3) := by decide +kernel
theorem dX4_setOut_13 : decode cX4_setOut 13 = .ok (.aload_n 1, 1) := by decide +kernel
theorem dX4_setOut_14 : decode cX4_setOut 14 = .ok (.getfield 72, 3) := by decide +kernel
theorem dX4_setOut_17 : decode cX4_setOut 17 = .ok (.iload_n 3, 1) := by decide +kernel
theorem dX4_setOut_18 : decode cX4_setOut 18 = .ok (.iaload, 1) := by decide +kernel
theorem dX4_setOut_19 : decode cX4_setOut 19 = .ok (.ifCond .eq 108, 3) := by decide +kernel
theorem dX4_setOut_22 : decode cX4_setOut 22 = .ok (.aload_n 1, 1) := by decide +kernel
theorem dX4_setOut_23 : decode cX4_setOut 23 = .ok (.iload_n 3, 1) := by decide +kernel
theorem dX4_setOut_24 : decode cX4_setOut 24 = .ok (.invokevirtual 83, 3) := by decide +kernel
theorem dX4_setOut_27 : decode cX4_setOut 27 = .ok (.ifCond .eq 100, 3) := by decide +kernel
theorem dX4_setOut_30 : decode cX4_setOut 30 = .ok (.aload_n 0, 1) := by decide +kernel
theorem dX4_setOut_31 : decode cX4_setOut 31 = .ok (.iload_n 3, 1) := by decide +kernel
theorem dX4_setOut_32 : decode cX4_setOut 32 = .ok (.iload_n 2, 1) := by decide +kernel
theorem dX4_setOut_33 : decode cX4_setOut 33 = .ok (.aload_n 1, 1) := by decide +kernel
theorem dX4_setOut_34 : decode cX4_setOut 34 = .ok (.getfield 87, 3) := by decide +kernel
theorem dX4_setOut_37 : decode cX4_setOut 37 = .ok (.invokevirtual 57, 3) := by decide +kernel
theorem dX4_setOut_40 : decode cX4_setOut 40 = .ok (.ifCond .eq 6, 3) := by decide +kernel
theorem dX4_setOut_43 : decode cX4_setOut 43 = .ok (.goto 84, 3) := by decide +kernel
theorem dX4_setOut_46 : decode cX4_setOut 46 = .ok (.aload_n 0, 1) := by decide +kernel
theorem dX4_setOut_47 : decode cX4_setOut 47 = .ok (.aload_n 1, 1) := by decide +kernel
theorem dX4_setOut_48 : decode cX4_setOut 48 = .ok (.iload_n 3, 1) := by decide +kernel
theorem dX4_setOut_49 : decode cX4_setOut 49 = .ok (.iload_n 2, 1) := by decide +kernel
theorem dX4_setOut_50 : decode cX4_setOut 50 = .ok (.invokevirtual 110, 3) := by decide +kernel
theorem dX4_setOut_53 : decode cX4_setOut 53 = .ok (.aload_n 0, 1) := by decide +kernel
theorem dX4_setOut_54 : decode cX4_setOut 54 = .ok (.getfield 34, 3) := by decide +kernel
theorem dX4_setOut_57 : decode cX4_setOut 57 = .ok (.iconst 1, 1) := by decide +kernel
theorem dX4_setOut_58 : decode cX4_setOut 58 = .ok (.aload_n 0, 1) := by decide +kernel
theorem dX4_setOut_59 : decode cX4_setOut 59 = .ok (.getfield 9, 3) := by decide +kernel
theorem dX4_setOut_62 : decode cX4_setOut 62 = .ok (.invokevirtual 114, 3) := by decide +kernel
theorem dX4_setOut_65 : decode cX4_setOut 65 = .ok (.ifCond .ne 62, 3) := by decide +kernel
theorem dX4_setOut_68 : decode cX4_setOut 68 = .ok (.iconst 0, 1) := by decide +kernel
theorem dX4_setOut_69 : decode cX4_setOut 69 = .ok (.bipush 100, 2) := by decide +kernel
theorem dX4_setOut_71 : decode cX4_setOut 71 = .ok (.aload_n 0, 1) := by decide +kernel
theorem dX4_setOut_72 : decode cX4_setOut 72 = .ok (.getfield 34, 3) := by decide +kernel
theorem dX4_setOut_75 : decode cX4_setOut 75 = .ok (.iconst 0, 1) := by decide +kernel
theorem dX4_setOut_76 : decode cX4_setOut 76 = .ok (.aload_n 0, 1) := by decide +kernel
theorem dX4_setOut_77 : decode cX4_setOut 77 = .ok (.getfield 9, 3) := by decide +kernel
theorem dX4_setOut_80 : decode cX4_setOut 80 = .ok (.invokevirtual 114, 3) := by decide +kernel
theorem dX4_setOut_83 : decode cX4_setOut 83 = .ok (.invokestatic 120, 3) := by decide +kernel
theorem dX4_setOut_86 : decode cX4_setOut 86 = .ok (.invokestatic 126, 3) := by decide +kernel
theorem dX4_setOut_89 : decode cX4_setOut 89 = .ok (.istore 4, 2) := by decide +kernel
theorem dX4_setOut_91 : decode cX4_setOut 91 = .ok (.aload_n 1, 1) := by decide +kernel
theorem dX4_setOut_92 : decode cX4_setOut 92 = .ok (.getfield 72, 3) := by decide +kernel
theorem dX4_setOut_95 : decode cX4_setOut 95 = .ok (.iload_n 3, 1) := by decide +kernel
theorem dX4_setOut_96 : decode cX4_setOut 96 = .ok (.iaload, 1) := by decide +kernel
theorem dX4_setOut_97 : decode cX4_setOut 97 = .ok (.iload 4, 2) := by decide +kernel
theorem dX4_setOut_99 : decode cX4_setOut 99 = .ok (.imul, 1) := by decide +kernel
theorem dX4_setOut_100 : decode cX4_setOut 100 = .ok (.bipush 100, 2) := by decide +kernel
theorem dX4_setOut_102 : decode cX4_setOut 102 = .ok (.idiv, 1) := by decide +kernel
theorem dX4_setOut_103 : decode cX4_setOut 103 = .ok (.istore 5, 2) := by decide +kernel
theorem dX4_setOut_105 : decode cX4_setOut 105 = .ok (.aload_n 1, 1) := by decide +kernel
theorem dX4_setOut_106 : decode cX4_setOut 106 = .ok (.getfield 72, 3) := by decide +kernel
theorem dX4_setOut_109 : decode cX4_setOut 109 = .ok (.iload_n 3, 1) := by decide +kernel
theorem dX4_setOut_110 : decode cX4_setOut 110 = .ok (.dup2, 1) := by decide +kernel
theorem dX4_setOut_111 : decode cX4_setOut 111 = .ok (.iaload, 1) := by decide +kernel
theorem dX4_setOut_112 : decode cX4_setOut 112 = .ok (.iload 5, 2) := by decide +kernel
theorem dX4_setOut_114 : decode cX4_setOut 114 = .ok (.isub, 1) := by decide +kernel
theorem dX4_setOut_115 : decode cX4_setOut 115 = .ok (.iastore, 1) := by decide +kernel
theorem dX4_setOut_116 : decode cX4_setOut 116 = .ok (.aload_n 1, 1) := by decide +kernel
theorem dX4_setOut_117 : decode cX4_setOut 117 = .ok (.getfield 77, 3) := by decide +kernel
theorem dX4_setOut_120 : decode cX4_setOut 120 = .ok (.iload_n 3, 1) := by decide +kernel
theorem dX4_setOut_121 : decode cX4_setOut 121 = .ok (.dup2, 1) := by decide +kernel
theorem dX4_setOut_122 : decode cX4_setOut 122 = .ok (.iaload, 1) := by decide +kernel
theorem dX4_setOut_123 : decode cX4_setOut 123 = .ok (.iload 5, 2) := by decide +kernel
theorem dX4_setOut_125 : decode cX4_setOut 125 = .ok (.iadd, 1) := by decide +kernel
theorem dX4_setOut_126 : decode cX4_setOut 126 = .ok (.iastore, 1) := by decide +kernel
theorem dX4_setOut_127 : decode cX4_setOut 127 = .ok (.iinc 3 1, 3) := by decide +kernel
theorem dX4_setOut_130 : decode cX4_setOut 130 = .ok (.goto (-128), 3) := by decide +kernel
theorem dX4_setOut_133 : decode cX4_setOut 133 = .ok (.return_, 1) := by decide +kernel
theorem dX4_chooseMoving_0 : decode cX4_chooseMoving 0 = .ok (.iconst 0, 1) := by decide +kernel
theorem dX4_chooseMoving_1 : decode cX4_chooseMoving 1 = .ok (.istore_n 3, 1) := by decide +kernel
theorem dX4_chooseMoving_2 : decode cX4_chooseMoving 2 = .ok (.iload_n 3, 1) := by decide +kernel
theorem dX4_chooseMoving_3 : decode cX4_chooseMoving 3 = .ok (.aload_n 0, 1) := by decide +kernel
theorem dX4_chooseMoving_4 : decode cX4_chooseMoving 4 = .ok (.getfield 22, 3) := by decide +kernel
theorem dX4_chooseMoving_7 : decode cX4_chooseMoving 7 = .ok (.getfield 129, 3) := by decide +kernel
theorem dX4_chooseMoving_10 : decode cX4_chooseMoving 10 = .ok (.if_icmp .ge 118, 3) := by decide +kernel
theorem dX4_chooseMoving_13 : decode cX4_chooseMoving 13 = .ok (.aload_n 0, 1) := by decide +kernel
theorem dX4_chooseMoving_14 : decode cX4_chooseMoving 14 = .ok (.getfield 22, 3) := by decide +kernel
theorem dX4_chooseMoving_17 : decode cX4_chooseMoving 17 = .ok (.getfield 54, 3) := by decide +kernel
theorem dX4_chooseMoving_20 : decode cX4_chooseMoving 20 = .ok (.iload_n 3, 1) := by decide +kernel
theorem dX4_chooseMoving_21 : decode cX4_chooseMoving 21 = .ok (.iaload, 1) := by decide +kernel
theorem dX4_chooseMoving_22 : decode cX4_chooseMoving 22 = .ok (.istore 4, 2) := by decide +kernel
theorem dX4_chooseMoving_24 : decode cX4_chooseMoving 24 = .ok (.aload_n 0, 1) := by decide +kernel
theorem dX4_chooseMoving_25 : decode cX4_chooseMoving 25 = .ok (.getfield 18, 3) := by decide +kernel
theorem dX4_chooseMoving_28 : decode cX4_chooseMoving 28 = .ok (.getfield 132, 3) := by decide +kernel
theorem dX4_chooseMoving_31 : decode cX4_chooseMoving 31 = .ok (.iload 4, 2) := by decide +kernel
theorem dX4_chooseMoving_33 : decode cX4_chooseMoving 33 = .ok (.iaload, 1) := by decide +kernel
theorem dX4_chooseMoving_34 : decode cX4_chooseMoving 34 = .ok (.iload_n 3, 1) := by decide +kernel
theorem dX4_chooseMoving_35 : decode cX4_chooseMoving 35 = .ok (.if_icmp .ne 26, 3) := by decide +kernel
theorem dX4_chooseMoving_38 : decode cX4_chooseMoving 38 = .ok (.aload_n 1, 1) := by decide +kernel
theorem dX4_chooseMoving_39 : decode cX4_chooseMoving 39 = .ok (.getfield 77, 3) := by decide +kernel
theorem dX4_chooseMoving_42 : decode cX4_chooseMoving 42 = .ok (.iload 4, 2) := by decide +kernel
theorem dX4_chooseMoving_44 : decode cX4_chooseMoving 44 = .ok (.iaload, 1) := by decide +kernel
theorem dX4_chooseMoving_45 : decode cX4_chooseMoving 45 = .ok (.aload_n 0, 1) := by decide +kernel
theorem dX4_chooseMoving_46 : decode cX4_chooseMoving 46 = .ok (.iload_n 3, 1) := by decide +kernel
theorem dX4_chooseMoving_47 : decode cX4_chooseMoving 47 = .ok (.iload_n 2, 1) := by decide +kernel
theorem dX4_chooseMoving_48 : decode cX4_chooseMoving 48 = .ok (.aload_n 1, 1) := by decide +kernel
theorem dX4_chooseMoving_49 : decode cX4_chooseMoving 49 = .ok (.getfield 87, 3) := by decide +kernel
theorem dX4_chooseMoving_52 : decode cX4_chooseMoving 52 = .ok (.invokevirtual 135, 3) := by decide +kernel
theorem dX4_chooseMoving_55 : decode cX4_chooseMoving 55 = .ok (.invokestatic 120, 3) := by decide +kernel
theorem dX4_chooseMoving_58 : decode cX4_chooseMoving 58 = .ok (.goto 4, 3) := by decide +kernel
theorem dX4_chooseMoving_61 : decode cX4_chooseMoving 61 = .ok (.iconst 0, 1) := by decide +kernel
theorem dX4_chooseMoving_62 : decode cX4_chooseMoving 62 = .ok (.istore 5, 2) := by decide +kernel
theorem dX4_chooseMoving_64 : decode cX4_chooseMoving 64 = .ok (.aload_n 0, 1) := by decide +kernel
theorem dX4_chooseMoving_65 : decode cX4_chooseMoving 65 = .ok (.getfield 22, 3) := by decide +kernel
theorem dX4_chooseMoving_68 : decode cX4_chooseMoving 68 = .ok (.getfield 49, 3) := by decide +kernel
theorem dX4_chooseMoving_71 : decode cX4_chooseMoving 71 = .ok (.iload_n 3, 1) := by decide +kernel
theorem dX4_chooseMoving_72 : decode cX4_chooseMoving 72 = .ok (.iaload, 1) := by decide +kernel
theorem dX4_chooseMoving_73 : decode cX4_chooseMoving 73 = .ok (.bipush 10, 2) := by decide +kernel
theorem dX4_chooseMoving_75 : decode cX4_chooseMoving 75 = .ok (.isub, 1) := by decide +kernel
theorem dX4_chooseMoving_76 : decode cX4_chooseMoving 76 = .ok (.istore 6, 2) := by decide +kernel
theorem dX4_chooseMoving_78 : decode cX4_chooseMoving 78 = .ok (.iload 6, 2) := by decide +kernel
theorem dX4_chooseMoving_80 : decode cX4_chooseMoving 80 = .ok (.iconst 0, 1) := by decide +kernel
theorem dX4_chooseMoving_81 : decode cX4_chooseMoving 81 = .ok (.iconst 2, 1) := by decide +kernel
theorem dX4_chooseMoving_82 : decode cX4_chooseMoving 82 = .ok (.invokestatic 138, 3) := by decide +kernel
theorem dX4_chooseMoving_85 : decode cX4_chooseMoving 85 = .ok (.ifCond .ne 29, 3) := by decide +kernel
theorem dX4_chooseMoving_88 : decode cX4_chooseMoving 88 = .ok (.iload 5, 2) := by decide +kernel
theorem dX4_chooseMoving_90 : decode cX4_chooseMoving 90 = .ok (.aload_n 1, 1) := by decide +kernel
theorem dX4_chooseMoving_91 : decode cX4_chooseMoving 91 = .ok (.getfield 141, 3) := by decide +kernel
theorem dX4_chooseMoving_94 : decode cX4_chooseMoving 94 = .ok (.iload 6, 2) := by decide +kernel
theorem dX4_chooseMoving_96 : decode cX4_chooseMoving 96 = .ok (.iaload, 1) := by decide +kernel
theorem dX4_chooseMoving_97 : decode cX4_chooseMoving 97 = .ok (.invokestatic 120, 3) := by decide +kernel
theorem dX4_chooseMoving_100 : decode cX4_chooseMoving 100 = .ok (.istore 5, 2) := by decide +kernel
theorem dX4_chooseMoving_102 : decode cX4_chooseMoving 102 = .ok (.aload_n 1, 1) := by decide +kernel
theorem dX4_chooseMoving_103 : decode cX4_chooseMoving 103 = .ok (.getfield 141, 3) := by decide +kernel
theorem dX4_chooseMoving_106 : decode cX4_chooseMoving 106 = .ok (.iload 6, 2) := by decide +kernel
theorem dX4_chooseMoving_108 : decode cX4_chooseMoving 108 = .ok (.dup2, 1) := by decide +kernel
theorem dX4_chooseMoving_109 : decode cX4_chooseMoving 109 = .ok (.iaload, 1) := by decide +kernel
theorem dX4_chooseMoving_110 : decode cX4_chooseMoving 110 = .ok (.iload 5, 2) := by decide +kernel
theorem dX4_chooseMoving_112 : decode cX4_chooseMoving 112 = .ok (.isub, 1) := by decide +kernel
theorem dX4_chooseMoving_113 : decode cX4_chooseMoving 113 = .ok (.iastore, 1) := by decide +kernel
theorem dX4_chooseMoving_114 : decode cX4_chooseMoving 114 = .ok (.aload_n 0, 1) := by decide +kernel
theorem dX4_chooseMoving_115 : decode cX4_chooseMoving 115 = .ok (.getfield 15, 3) := by decide +kernel
theorem dX4_chooseMoving_118 : decode cX4_chooseMoving 118 = .ok (.iload_n 3, 1) := by decide +kernel
theorem dX4_chooseMoving_119 : decode cX4_chooseMoving 119 = .ok (.iload 5, 2) := by decide +kernel
theorem dX4_chooseMoving_121 : decode cX4_chooseMoving 121 = .ok (.iastore, 1) := by decide +kernel
theorem dX4_chooseMoving_122 : decode cX4_chooseMoving 122 = .ok (.iinc 3 1, 3) := by decide +kernel
theorem dX4_chooseMoving_125 : decode cX4_chooseMoving 125 = .ok (.goto (-123), 3) := by decide +kernel
theorem dX4_chooseMoving_128 : decode cX4_chooseMoving 128 = .ok (.return_, 1) := by decide +kernel
theorem dX4_move_0 : decode cX4_move 0 = .ok (.iconst 0, 1) := by decide +kernel
theorem dX4_move_1 : decode cX4_move 1 = .ok (.istore_n 2, 1) := by decide +kernel
theorem dX4_move_2 : decode cX4_move 2 = .ok (.iload_n 2, 1) := by decide +kernel
theorem dX4_move_3 : decode cX4_move 3 = .ok (.aload_n 0, 1) := by decide +kernel
theorem dX4_move_4 : decode cX4_move 4 = .ok (.getfield 22, 3) := by decide +kernel
theorem dX4_move_7 : decode cX4_move 7 = .ok (.getfield 129, 3) := by decide +kernel
theorem dX4_move_10 : decode cX4_move 10 = .ok (.if_icmp .ge 100, 3) := by decide +kernel
theorem dX4_move_13 : decode cX4_move 13 = .ok (.aload_n 0, 1) := by decide +kernel
theorem dX4_move_14 : decode cX4_move 14 = .ok (.getfield 15, 3) := by decide +kernel
theorem dX4_move_17 : decode cX4_move 17 = .ok (.iload_n 2, 1) := by decide +kernel
theorem dX4_move_18 : decode cX4_move 18 = .ok (.iaload, 1) := by decide +kernel
theorem dX4_move_19 : decode cX4_move 19 = .ok (.istore_n 3, 1) := by decide +kernel
theorem dX4_move_20 : decode cX4_move 20 = .ok (.aload_n 0, 1) := by decide +kernel
theorem dX4_move_21 : decode cX4_move 21 = .ok (.getfield 22, 3) := by decide +kernel
theorem dX4_move_24 : decode cX4_move 24 = .ok (.getfield 49, 3) := by decide +kernel
theorem dX4_move_27 : decode cX4_move 27 = .ok (.iload_n 2, 1) := by decide +kernel
theorem dX4_move_28 : decode cX4_move 28 = .ok (.iaload, 1) := by decide +kernel
theorem dX4_move_29 : decode cX4_move 29 = .ok (.istore 4, 2) := by decide +kernel
theorem dX4_move_31 : decode cX4_move 31 = .ok (.aload_n 1, 1) := by decide +kernel
theorem dX4_move_32 : decode cX4_move 32 = .ok (.getfield 77, 3) := by decide +kernel
theorem dX4_move_35 : decode cX4_move 35 = .ok (.aload_n 0, 1) := by decide +kernel
theorem dX4_move_36 : decode cX4_move 36 = .ok (.getfield 22, 3) := by decide +kernel
theorem dX4_move_39 : decode cX4_move 39 = .ok (.getfield 54, 3) := by decide +kernel
theorem dX4_move_42 : decode cX4_move 42 = .ok (.iload_n 2, 1) := by decide +kernel
theorem dX4_move_43 : decode cX4_move 43 = .ok (.iaload, 1) := by decide +kernel
theorem dX4_move_44 : decode cX4_move 44 = .ok (.dup2, 1) := by decide +kernel
theorem dX4_move_45 : decode cX4_move 45 = .ok (.iaload, 1) := by decide +kernel
theorem dX4_move_46 : decode cX4_move 46 = .ok (.iload_n 3, 1) := by decide +kernel
theorem dX4_move_47 : decode cX4_move 47 = .ok (.isub, 1) := by decide +kernel
theorem dX4_move_48 : decode cX4_move 48 = .ok (.iastore, 1) := by decide +kernel
theorem dX4_move_49 : decode cX4_move 49 = .ok (.iload 4, 2) := by decide +kernel
theorem dX4_move_51 : decode cX4_move 51 = .ok (.bipush 6, 2) := by decide +kernel
theorem dX4_move_53 : decode cX4_move 53 = .ok (.if_icmp .ge 17, 3) := by decide +kernel
theorem dX4_move_56 : decode cX4_move 56 = .ok (.aload_n 1, 1) := by decide +kernel
theorem dX4_move_57 : decode cX4_move 57 = .ok (.getfield 77, 3) := by decide +kernel
theorem dX4_move_60 : decode cX4_move 60 = .ok (.iload 4, 2) := by decide +kernel
theorem dX4_move_62 : decode cX4_move 62 = .ok (.dup2, 1) := by decide +kernel
theorem dX4_move_63 : decode cX4_move 63 = .ok (.iaload, 1) := by decide +kernel
theorem dX4_move_64 : decode cX4_move 64 = .ok (.iload_n 3, 1) := by decide +kernel
theorem dX4_move_65 : decode cX4_move 65 = .ok (.iadd, 1) := by decide +kernel
theorem dX4_move_66 : decode cX4_move 66 = .ok (.iastore, 1) := by decide +kernel
theorem dX4_move_67 : decode cX4_move 67 = .ok (.goto 37, 3) := by decide +kernel
theorem dX4_move_70 : decode cX4_move 70 = .ok (.iload 4, 2) := by decide +kernel
theorem dX4_move_72 : decode cX4_move 72 = .ok (.bipush 20, 2) := by decide +kernel
theorem dX4_move_74 : decode cX4_move 74 = .ok (.if_icmp .ge 20, 3) := by decide +kernel
theorem dX4_move_77 : decode cX4_move 77 = .ok (.aload_n 1, 1) := by decide +kernel
theorem dX4_move_78 : decode cX4_move 78 = .ok (.getfield 144, 3) := by decide +kernel
theorem dX4_move_81 : decode cX4_move 81 = .ok (.iload 4, 2) := by decide +kernel
theorem dX4_move_83 : decode cX4_move 83 = .ok (.bipush 10, 2) := by decide +kernel
theorem dX4_move_85 : decode cX4_move 85 = .ok (.isub, 1) := by decide +kernel
theorem dX4_move_86 : decode cX4_move 86 = .ok (.dup2, 1) := by decide +kernel
theorem dX4_move_87 : decode cX4_move 87 = .ok (.iaload, 1) := by decide +kernel
theorem dX4_move_88 : decode cX4_move 88 = .ok (.iload_n 3, 1) := by decide +kernel
theorem dX4_move_89 : decode cX4_move 89 = .ok (.iadd, 1) := by decide +kernel
theorem dX4_move_90 : decode cX4_move 90 = .ok (.iastore, 1) := by decide +kernel
theorem dX4_move_91 : decode cX4_move 91 = .ok (.goto 13, 3) := by decide +kernel
theorem dX4_move_94 : decode cX4_move 94 = .ok (.aload_n 1, 1) := by decide +kernel
theorem dX4_move_95 : decode cX4_move 95 = .ok (.dup, 1) := by decide +kernel
theorem dX4_move_96 : decode cX4_move 96 = .ok (.getfield 147, 3) := by decide +kernel
theorem dX4_move_99 : decode cX4_move 99 = .ok (.iload_n 3, 1) := by decide +kernel
theorem dX4_move_100 : decode cX4_move 100 = .ok (.iadd, 1) := by decide +kernel
theorem dX4_move_101 : decode cX4_move 101 = .ok (.putfield 147, 3) := by decide +kernel
theorem dX4_move_104 : decode cX4_move 104 = .ok (.iinc 2 1, 3) := by decide +kernel
theorem dX4_move_107 : decode cX4_move 107 = .ok (.goto (-105), 3) := by decide +kernel
theorem dX4_move_110 : decode cX4_move 110 = .ok (.return_, 1) := by decide +kernel
theorem dX4_board_0 : decode cX4_board 0 = .ok (.iconst 0, 1) := by decide +kernel
theorem dX4_board_1 : decode cX4_board 1 = .ok (.istore_n 3, 1) := by decide +kernel
theorem dX4_board_2 : decode cX4_board 2 = .ok (.iload_n 3, 1) := by decide +kernel
theorem dX4_board_3 : decode cX4_board 3 = .ok (.aload_n 0, 1) := by decide +kernel
theorem dX4_board_4 : decode cX4_board 4 = .ok (.getfield 26, 3) := by decide +kernel
theorem dX4_board_7 : decode cX4_board 7 = .ok (.getfield 150, 3) := by decide +kernel
theorem dX4_board_10 : decode cX4_board 10 = .ok (.if_icmp .ge 169, 3) := by decide +kernel
theorem dX4_board_13 : decode cX4_board 13 = .ok (.aload_n 0, 1) := by decide +kernel
theorem dX4_board_14 : decode cX4_board 14 = .ok (.getfield 26, 3) := by decide +kernel
theorem dX4_board_17 : decode cX4_board 17 = .ok (.getfield 153, 3) := by decide +kernel
theorem dX4_board_20 : decode cX4_board 20 = .ok (.iload_n 3, 1) := by decide +kernel
theorem dX4_board_21 : decode cX4_board 21 = .ok (.iaload, 1) := by decide +kernel
theorem dX4_board_22 : decode cX4_board 22 = .ok (.istore 4, 2) := by decide +kernel
theorem dX4_board_24 : decode cX4_board 24 = .ok (.aload_n 0, 1) := by decide +kernel
theorem dX4_board_25 : decode cX4_board 25 = .ok (.getfield 26, 3) := by decide +kernel
theorem dX4_board_28 : decode cX4_board 28 = .ok (.getfield 156, 3) := by decide +kernel
theorem dX4_board_31 : decode cX4_board 31 = .ok (.iload_n 3, 1) := by decide +kernel
theorem dX4_board_32 : decode cX4_board 32 = .ok (.iaload, 1) := by decide +kernel
theorem dX4_board_33 : decode cX4_board 33 = .ok (.istore 5, 2) := by decide +kernel
theorem dX4_board_35 : decode cX4_board 35 = .ok (.aload_n 0, 1) := by decide +kernel
theorem dX4_board_36 : decode cX4_board 36 = .ok (.getfield 26, 3) := by decide +kernel
theorem dX4_board_39 : decode cX4_board 39 = .ok (.getfield 159, 3) := by decide +kernel
theorem dX4_board_42 : decode cX4_board 42 = .ok (.iload_n 3, 1) := by decide +kernel
theorem dX4_board_43 : decode cX4_board 43 = .ok (.iaload, 1) := by decide +kernel
theorem dX4_board_44 : decode cX4_board 44 = .ok (.aload_n 1, 1) := by decide +kernel
theorem dX4_board_45 : decode cX4_board 45 = .ok (.getfield 80, 3) := by decide +kernel
theorem dX4_board_48 : decode cX4_board 48 = .ok (.iload 4, 2) := by decide +kernel
theorem dX4_board_50 : decode cX4_board 50 = .ok (.iaload, 1) := by decide +kernel
theorem dX4_board_51 : decode cX4_board 51 = .ok (.aload_n 1, 1) := by decide +kernel
theorem dX4_board_52 : decode cX4_board 52 = .ok (.getfield 141, 3) := by decide +kernel
theorem dX4_board_55 : decode cX4_board 55 = .ok (.iload 5, 2) := by decide +kernel
theorem dX4_board_57 : decode cX4_board 57 = .ok (.iaload, 1) := by decide +kernel
theorem dX4_board_58 : decode cX4_board 58 = .ok (.invokestatic 120, 3) := by decide +kernel
theorem dX4_board_61 : decode cX4_board 61 = .ok (.invokestatic 120, 3) := by decide +kernel
theorem dX4_board_64 : decode cX4_board 64 = .ok (.istore 6, 2) := by decide +kernel
theorem dX4_board_66 : decode cX4_board 66 = .ok (.iload 6, 2) := by decide +kernel
theorem dX4_board_68 : decode cX4_board 68 = .ok (.ifCond .eq 105, 3) := by decide +kernel
theorem dX4_board_71 : decode cX4_board 71 = .ok (.aload_n 1, 1) := by decide +kernel
theorem dX4_board_72 : decode cX4_board 72 = .ok (.getfield 162, 3) := by decide +kernel
theorem dX4_board_75 : decode cX4_board 75 = .ok (.iload_n 3, 1) := by decide +kernel
theorem dX4_board_76 : decode cX4_board 76 = .ok (.iaload, 1) := by decide +kernel
theorem dX4_board_77 : decode cX4_board 77 = .ok (.iconst (-1), 1) := by decide +kernel
theorem dX4_board_78 : decode cX4_board 78 = .ok (.if_icmp .ne 95, 3) := by decide +kernel
theorem dX4_board_81 : decode cX4_board 81 = .ok (.aload_n 0, 1) := by decide +kernel
theorem dX4_board_82 : decode cX4_board 82 = .ok (.iload 4, 2) := by decide +kernel
theorem dX4_board_84 : decode cX4_board 84 = .ok (.iload_n 2, 1) := by decide +kernel
theorem dX4_board_85 : decode cX4_board 85 = .ok (.aload_n 1, 1) := by decide +kernel
theorem dX4_board_86 : decode cX4_board 86 = .ok (.getfield 87, 3) := by decide +kernel
theorem dX4_board_89 : decode cX4_board 89 = .ok (.invokevirtual 57, 3) := by decide +kernel
theorem dX4_board_92 : decode cX4_board 92 = .ok (.ifCond .eq 6, 3) := by decide +kernel
theorem dX4_board_95 : decode cX4_board 95 = .ok (.goto 78, 3) := by decide +kernel
theorem dX4_board_98 : decode cX4_board 98 = .ok (.aload_n 0, 1) := by decide +kernel
theorem dX4_board_99 : decode cX4_board 99 = .ok (.aload_n 1, 1) := by decide +kernel
theorem dX4_board_100 : decode cX4_board 100 = .ok (.iload 4, 2) := by decide +kernel
theorem dX4_board_102 : decode cX4_board 102 = .ok (.iload_n 2, 1) := by decide +kernel
theorem dX4_board_103 : decode cX4_board 103 = .ok (.invokevirtual 110, 3) := by decide +kernel
theorem dX4_board_106 : decode cX4_board 106 = .ok (.aload_n 0, 1) := by decide +kernel
theorem dX4_board_107 : decode cX4_board 107 = .ok (.getfield 34, 3) := by decide +kernel
theorem dX4_board_110 : decode cX4_board 110 = .ok (.iconst 1, 1) := by decide +kernel
theorem dX4_board_111 : decode cX4_board 111 = .ok (.aload_n 0, 1) := by decide +kernel
theorem dX4_board_112 : decode cX4_board 112 = .ok (.getfield 9, 3) := by decide +kernel
theorem dX4_board_115 : decode cX4_board 115 = .ok (.invokevirtual 114, 3) := by decide +kernel
theorem dX4_board_118 : decode cX4_board 118 = .ok (.ifCond .ne 55, 3) := by decide +kernel
theorem dX4_board_121 : decode cX4_board 121 = .ok (.aload_n 1, 1) := by decide +kernel
theorem dX4_board_122 : decode cX4_board 122 = .ok (.getfield 80, 3) := by decide +kernel
theorem dX4_board_125 : decode cX4_board 125 = .ok (.iload 4, 2) := by decide +kernel
theorem dX4_board_127 : decode cX4_board 127 = .ok (.dup2, 1) := by decide +kernel
theorem dX4_board_128 : decode cX4_board 128 = .ok (.iaload, 1) := by decide +kernel
theorem dX4_board_129 : decode cX4_board 129 = .ok (.iload 6, 2) := by decide +kernel
theorem dX4_board_131 : decode cX4_board 131 = .ok (.isub, 1) := by decide +kernel
theorem dX4_board_132 : decode cX4_board 132 = .ok (.iastore, 1) := by decide +kernel
theorem dX4_board_133 : decode cX4_board 133 = .ok (.aload_n 1, 1) := by decide +kernel
theorem dX4_board_134 : decode cX4_board 134 = .ok (.getfield 141, 3) := by decide +kernel
theorem dX4_board_137 : decode cX4_board 137 = .ok (.iload 5, 2) := by decide +kernel
theorem dX4_board_139 : decode cX4_board 139 = .ok (.dup2, 1) := by decide +kernel
theorem dX4_board_140 : decode cX4_board 140 = .ok (.iaload, 1) := by decide +kernel
theorem dX4_board_141 : decode cX4_board 141 = .ok (.iload 6, 2) := by decide +kernel
theorem dX4_board_143 : decode cX4_board 143 = .ok (.isub, 1) := by decide +kernel
theorem dX4_board_144 : decode cX4_board 144 = .ok (.iastore, 1) := by decide +kernel
theorem dX4_board_145 : decode cX4_board 145 = .ok (.aload_n 1, 1) := by decide +kernel
theorem dX4_board_146 : decode cX4_board 146 = .ok (.getfield 165, 3) := by decide +kernel
theorem dX4_board_149 : decode cX4_board 149 = .ok (.iload_n 3, 1) := by decide +kernel
theorem dX4_board_150 : decode cX4_board 150 = .ok (.iload 6, 2) := by decide +kernel
theorem dX4_board_152 : decode cX4_board 152 = .ok (.iastore, 1) := by decide +kernel
theorem dX4_board_153 : decode cX4_board 153 = .ok (.aload_n 1, 1) := by decide +kernel
theorem dX4_board_154 : decode cX4_board 154 = .ok (.getfield 162, 3) := by decide +kernel
theorem dX4_board_157 : decode cX4_board 157 = .ok (.iload_n 3, 1) := by decide +kernel
theorem dX4_board_158 : decode cX4_board 158 = .ok (.aload_n 1, 1) := by decide +kernel
theorem dX4_board_159 : decode cX4_board 159 = .ok (.getfield 87, 3) := by decide +kernel
theorem dX4_board_162 : decode cX4_board 162 = .ok (.aload_n 0, 1) := by decide +kernel
theorem dX4_board_163 : decode cX4_board 163 = .ok (.getfield 26, 3) := by decide +kernel
theorem dX4_board_166 : decode cX4_board 166 = .ok (.getfield 168, 3) := by decide +kernel
theorem dX4_board_169 : decode cX4_board 169 = .ok (.iload_n 3, 1) := by decide +kernel
theorem dX4_board_170 : decode cX4_board 170 = .ok (.iaload, 1) := by decide +kernel
theorem dX4_board_171 : decode cX4_board 171 = .ok (.iadd, 1) := by decide +kernel
theorem dX4_board_172 : decode cX4_board 172 = .ok (.iastore, 1) := by decide +kernel
theorem dX4_board_173 : decode cX4_board 173 = .ok (.iinc 3 1, 3) := by decide +kernel
theorem dX4_board_176 : decode cX4_board 176 = .ok (.goto (-174), 3) := by decide +kernel
theorem dX4_board_179 : decode cX4_board 179 = .ok (.return_, 1) := by decide +kernel
theorem dX4_freeBuses_0 : decode cX4_freeBuses 0 = .ok (.iconst 0, 1) := by decide +kernel
theorem dX4_freeBuses_1 : decode cX4_freeBuses 1 = .ok (.istore_n 2, 1) := by decide +kernel
theorem dX4_freeBuses_2 : decode cX4_freeBuses 2 = .ok (.iload_n 2, 1) := by decide +kernel
theorem dX4_freeBuses_3 : decode cX4_freeBuses 3 = .ok (.aload_n 0, 1) := by decide +kernel
theorem dX4_freeBuses_4 : decode cX4_freeBuses 4 = .ok (.getfield 26, 3) := by decide +kernel
theorem dX4_freeBuses_7 : decode cX4_freeBuses 7 = .ok (.getfield 150, 3) := by decide +kernel
theorem dX4_freeBuses_10 : decode cX4_freeBuses 10 = .ok (.if_icmp .ge 59, 3) := by decide +kernel
theorem dX4_freeBuses_13 : decode cX4_freeBuses 13 = .ok (.aload_n 1, 1) := by decide +kernel
theorem dX4_freeBuses_14 : decode cX4_freeBuses 14 = .ok (.getfield 162, 3) := by decide +kernel
theorem dX4_freeBuses_17 : decode cX4_freeBuses 17 = .ok (.iload_n 2, 1) := by decide +kernel
theorem dX4_freeBuses_18 : decode cX4_freeBuses 18 = .ok (.iaload, 1) := by decide +kernel
theorem dX4_freeBuses_19 : decode cX4_freeBuses 19 = .ok (.aload_n 1, 1) := by decide +kernel
theorem dX4_freeBuses_20 : decode cX4_freeBuses 20 = .ok (.getfield 87, 3) := by decide +kernel
theorem dX4_freeBuses_23 : decode cX4_freeBuses 23 = .ok (.if_icmp .ne 40, 3) := by decide +kernel
theorem dX4_freeBuses_26 : decode cX4_freeBuses 26 = .ok (.aload_n 1, 1) := by decide +kernel
theorem dX4_freeBuses_27 : decode cX4_freeBuses 27 = .ok (.getfield 144, 3) := by decide +kernel
theorem dX4_freeBuses_30 : decode cX4_freeBuses 30 = .ok (.aload_n 0, 1) := by decide +kernel
theorem dX4_freeBuses_31 : decode cX4_freeBuses 31 = .ok (.getfield 26, 3) := by decide +kernel
theorem dX4_freeBuses_34 : decode cX4_freeBuses 34 = .ok (.getfield 156, 3) := by decide +kernel
theorem dX4_freeBuses_37 : decode cX4_freeBuses 37 = .ok (.iload_n 2, 1) := by decide +kernel
theorem dX4_freeBuses_38 : decode cX4_freeBuses 38 = .ok (.iaload, 1) := by decide +kernel
theorem dX4_freeBuses_39 : decode cX4_freeBuses 39 = .ok (.dup2, 1) := by decide +kernel
theorem dX4_freeBuses_40 : decode cX4_freeBuses 40 = .ok (.iaload, 1) := by decide +kernel
theorem dX4_freeBuses_41 : decode cX4_freeBuses 41 = .ok (.aload_n 1, 1) := by decide +kernel
theorem dX4_freeBuses_42 : decode cX4_freeBuses 42 = .ok (.getfield 165, 3) := by decide +kernel
theorem dX4_freeBuses_45 : decode cX4_freeBuses 45 = .ok (.iload_n 2, 1) := by decide +kernel
theorem dX4_freeBuses_46 : decode cX4_freeBuses 46 = .ok (.iaload, 1) := by decide +kernel
theorem dX4_freeBuses_47 : decode cX4_freeBuses 47 = .ok (.iadd, 1) := by decide +kernel
theorem dX4_freeBuses_48 : decode cX4_freeBuses 48 = .ok (.iastore, 1) := by decide +kernel
theorem dX4_freeBuses_49 : decode cX4_freeBuses 49 = .ok (.aload_n 1, 1) := by decide +kernel
theorem dX4_freeBuses_50 : decode cX4_freeBuses 50 = .ok (.getfield 165, 3) := by decide +kernel
theorem dX4_freeBuses_53 : decode cX4_freeBuses 53 = .ok (.iload_n 2, 1) := by decide +kernel
theorem dX4_freeBuses_54 : decode cX4_freeBuses 54 = .ok (.iconst 0, 1) := by decide +kernel
theorem dX4_freeBuses_55 : decode cX4_freeBuses 55 = .ok (.iastore, 1) := by decide +kernel
theorem dX4_freeBuses_56 : decode cX4_freeBuses 56 = .ok (.aload_n 1, 1) := by decide +kernel
theorem dX4_freeBuses_57 : decode cX4_freeBuses 57 = .ok (.getfield 162, 3) := by decide +kernel
theorem dX4_freeBuses_60 : decode cX4_freeBuses 60 = .ok (.iload_n 2, 1) := by decide +kernel
theorem dX4_freeBuses_61 : decode cX4_freeBuses 61 = .ok (.iconst (-1), 1) := by decide +kernel
theorem dX4_freeBuses_62 : decode cX4_freeBuses 62 = .ok (.iastore, 1) := by decide +kernel
theorem dX4_freeBuses_63 : decode cX4_freeBuses 63 = .ok (.iinc 2 1, 3) := by decide +kernel
theorem dX4_freeBuses_66 : decode cX4_freeBuses 66 = .ok (.goto (-64), 3) := by decide +kernel
theorem dX4_freeBuses_69 : decode cX4_freeBuses 69 = .ok (.return_, 1) := by decide +kernel
theorem dX5_init_0 : decode cX5_init 0 = .ok (.aload_n 0, 1) := by decide +kernel
theorem dX5_init_1 : decode cX5_init 1 = .ok (.invokespecial 5, 3) := by decide +kernel
theorem dX5_init_4 : decode cX5_init 4 = .ok (.aload_n 0, 1) := by decide +kernel
theorem dX5_init_5 : decode cX5_init 5 = .ok (.aload_n 1, 1) := by decide +kernel
theorem dX5_init_6 : decode cX5_init 6 = .ok (.putfield 11, 3) := by decide +kernel
theorem dX5_init_9 : decode cX5_init 9 = .ok (.aload_n 0, 1) := by decide +kernel
theorem dX5_init_10 : decode cX5_init 10 = .ok (.iconst 0, 1) := by decide +kernel
theorem dX5_init_11 : decode cX5_init 11 = .ok (.newarray .int, 2) := by decide +kernel
theorem dX5_init_13 : decode cX5_init 13 = .ok (.putfield 15, 3) := by decide +kernel
theorem dX5_init_16 : decode cX5_init 16 = .ok (.return_, 1) := by decide +kernel
theorem dX5_read_0 : decode cX5_read 0 = .ok (.aload_n 0, 1) := by decide +kernel
theorem dX5_read_1 : decode cX5_read 1 = .ok (.iload_n 1, 1) := by decide +kernel
theorem dX5_read_2 : decode cX5_read 2 = .ok (.putfield 19, 3) := by decide +kernel
theorem dX5_read_5 : decode cX5_read 5 = .ok (.aload_n 0, 1) := by decide +kernel
theorem dX5_read_6 : decode cX5_read 6 = .ok (.aload_n 2, 1) := by decide +kernel
theorem dX5_read_7 : decode cX5_read 7 = .ok (.putfield 15, 3) := by decide +kernel
theorem dX5_read_10 : decode cX5_read 10 = .ok (.aload_n 0, 1) := by decide +kernel
theorem dX5_read_11 : decode cX5_read 11 = .ok (.iconst 0, 1) := by decide +kernel
theorem dX5_read_12 : decode cX5_read 12 = .ok (.putfield 23, 3) := by decide +kernel
theorem dX5_read_15 : decode cX5_read 15 = .ok (.aload_n 0, 1) := by decide +kernel
theorem dX5_read_16 : decode cX5_read 16 = .ok (.iconst 0, 1) := by decide +kernel
theorem dX5_read_17 : decode cX5_read 17 = .ok (.putfield 26, 3) := by decide +kernel
theorem dX5_read_20 : decode cX5_read 20 = .ok (.aload_n 0, 1) := by decide +kernel
theorem dX5_read_21 : decode cX5_read 21 = .ok (.iconst (-1), 1) := by decide +kernel
theorem dX5_read_22 : decode cX5_read 22 = .ok (.putfield 29, 3) := by decide +kernel
theorem dX5_read_25 : decode cX5_read 25 = .ok (.aload_n 0, 1) := by decide +kernel
theorem dX5_read_26 : decode cX5_read 26 = .ok (.invokevirtual 32, 3) := by decide +kernel
theorem dX5_read_29 : decode cX5_read 29 = .ok (.aload_n 0, 1) := by decide +kernel
theorem dX5_read_30 : decode cX5_read 30 = .ok (.bipush 14, 2) := by decide +kernel
theorem dX5_read_32 : decode cX5_read 32 = .ok (.invokevirtual 35, 3) := by decide +kernel
theorem dX5_read_35 : decode cX5_read 35 = .ok (.aload_n 0, 1) := by decide +kernel
theorem dX5_read_36 : decode cX5_read 36 = .ok (.iconst 0, 1) := by decide +kernel
theorem dX5_read_37 : decode cX5_read 37 = .ok (.iconst 0, 1) := by decide +kernel
theorem dX5_read_38 : decode cX5_read 38 = .ok (.invokevirtual 39, 3) := by decide +kernel
theorem dX5_read_41 : decode cX5_read 41 = .ok (.aload_n 0, 1) := by decide +kernel
theorem dX5_read_42 : decode cX5_read 42 = .ok (.bipush 59, 2) := by decide +kernel
theorem dX5_read_44 : decode cX5_read 44 = .ok (.invokevirtual 35, 3) := by decide +kernel
theorem dX5_read_47 : decode cX5_read 47 = .ok (.aload_n 0, 1) := by decide +kernel
theorem dX5_read_48 : decode cX5_read 48 = .ok (.aload_n 0, 1) := by decide +kernel
theorem dX5_read_49 : decode cX5_read 49 = .ok (.getfield 23, 3) := by decide +kernel
theorem dX5_read_52 : decode cX5_read 52 = .ok (.putfield 43, 3) := by decide +kernel
theorem dX5_read_55 : decode cX5_read 55 = .ok (.aload_n 0, 1) := by decide +kernel
theorem dX5_read_56 : decode cX5_read 56 = .ok (.bipush 15, 2) := by decide +kernel
theorem dX5_read_58 : decode cX5_read 58 = .ok (.invokevirtual 35, 3) := by decide +kernel
theorem dX5_read_61 : decode cX5_read 61 = .ok (.aload_n 0, 1) := by decide +kernel
theorem dX5_read_62 : decode cX5_read 62 = .ok (.iconst 0, 1) := by decide +kernel
theorem dX5_read_63 : decode cX5_read 63 = .ok (.iconst 0, 1) := by decide +kernel
theorem dX5_read_64 : decode cX5_read 64 = .ok (.invokevirtual 39, 3) := by decide +kernel
theorem dX5_read_67 : decode cX5_read 67 = .ok (.aload_n 0, 1) := by decide +kernel
theorem dX5_read_68 : decode cX5_read 68 = .ok (.bipush 59, 2) := by decide +kernel
theorem dX5_read_70 : decode cX5_read 70 = .ok (.invokevirtual 35, 3) := by decide +kernel
theorem dX5_read_73 : decode cX5_read 73 = .ok (.aload_n 0, 1) := by decide +kernel
theorem dX5_read_74 : decode cX5_read 74 = .ok (.getfield 46, 3) := by decide +kernel
theorem dX5_read_77 : decode cX5_read 77 = .ok (.bipush 11, 2) := by decide +kernel
theorem dX5_read_79 : decode cX5_read 79 = .ok (.if_icmp .eq 7, 3) := by decide +kernel
theorem dX5_read_82 : decode cX5_read 82 = .ok (.aload_n 0, 1) := by decide +kernel
theorem dX5_read_83 : decode cX5_read 83 = .ok (.invokevirtual 49, 3) := by decide +kernel
theorem dX5_read_86 : decode cX5_read 86 = .ok (.aload_n 0, 1) := by decide +kernel
theorem dX5_read_87 : decode cX5_read 87 = .ok (.getfield 29, 3) := by decide +kernel
theorem dX5_read_90 : decode cX5_read 90 = .ok (.ireturn, 1) := by decide +kernel
theorem dX5_expect_0 : decode cX5_expect 0 = .ok (.aload_n 0, 1) := by decide +kernel
theorem dX5_expect_1 : decode cX5_expect 1 = .ok (.getfield 46, 3) := by decide +kernel
theorem dX5_expect_4 : decode cX5_expect 4 = .ok (.iload_n 1, 1) := by decide +kernel
theorem dX5_expect_5 : decode cX5_expect 5 = .ok (.if_icmp .ne 10, 3) := by decide +kernel
theorem dX5_expect_8 : decode cX5_expect 8 = .ok (.aload_n 0, 1) := by decide +kernel
theorem dX5_expect_9 : decode cX5_expect 9 = .ok (.invokevirtual 32, 3) := by decide +kernel
theorem dX5_expect_12 : decode cX5_expect 12 = .ok (.goto 7, 3) := by decide +kernel
theorem dX5_expect_15 : decode cX5_expect 15 = .ok (.aload_n 0, 1) := by decide +kernel
theorem dX5_expect_16 : decode cX5_expect 16 = .ok (.invokevirtual 49, 3) := by decide +kernel
theorem dX5_expect_19 : decode cX5_expect 19 = .ok (.return_, 1) := by decide +kernel
theorem dX5_fail_0 : decode cX5_fail 0 = .ok (.aload_n 0, 1) := by decide +kernel
theorem dX5_fail_1 : decode cX5_fail 1 = .ok (.getfield 29, 3) := by decide +kernel
theorem dX5_fail_4 : decode cX5_fail 4 = .ok (.iconst (-1), 1) := by decide +kernel
theorem dX5_fail_5 : decode cX5_fail 5 = .ok (.if_icmp .ne 11, 3) := by decide +kernel
theorem dX5_fail_8 : decode cX5_fail 8 = .ok (.aload_n 0, 1) := by decide +kernel
theorem dX5_fail_9 : decode cX5_fail 9 = .ok (.aload_n 0, 1) := by decide +kernel
theorem dX5_fail_10 : decode cX5_fail 10 = .ok (.getfield 52, 3) := by decide +kernel
theorem dX5_fail_13 : decode cX5_fail 13 = .ok (.putfield 29, 3) := by decide +kernel
theorem dX5_fail_16 : decode cX5_fail 16 = .ok (.aload_n 0, 1) := by decide +kernel
theorem dX5_fail_17 : decode cX5_fail 17 = .ok (.bipush 10, 2) := by decide +kernel
theorem dX5_fail_19 : decode cX5_fail 19 = .ok (.putfield 46, 3) := by decide +kernel
theorem dX5_fail_22 : decode cX5_fail 22 = .ok (.return_, 1) := by decide +kernel
theorem dX5_put_0 : decode cX5_put 0 = .ok (.aload_n 0, 1) := by decide +kernel
theorem dX5_put_1 : decode cX5_put 1 = .ok (.getfield 23, 3) := by decide +kernel
theorem dX5_put_4 : decode cX5_put 4 = .ok (.aload_n 0, 1) := by decide +kernel
theorem dX5_put_5 : decode cX5_put 5 = .ok (.getfield 15, 3) := by decide +kernel
theorem dX5_put_8 : decode cX5_put 8 = .ok (.arraylength, 1) := by decide +kernel
theorem dX5_put_9 : decode cX5_put 9 = .ok (.if_icmp .ge 20, 3) := by decide +kernel
theorem dX5_put_12 : decode cX5_put 12 = .ok (.aload_n 0, 1) := by decide +kernel
theorem dX5_put_13 : decode cX5_put 13 = .ok (.getfield 15, 3) := by decide +kernel
theorem dX5_put_16 : decode cX5_put 16 = .ok (.aload_n 0, 1) := by decide +kernel
theorem dX5_put_17 : decode cX5_put 17 = .ok (.dup, 1) := by decide +kernel
theorem dX5_put_18 : decode cX5_put 18 = .ok (.getfield 23, 3) := by decide +kernel
theorem dX5_put_21 : decode cX5_put 21 = .ok (.dup_x1, 1) := by decide +kernel
theorem dX5_put_22 : decode cX5_put 22 = .ok (.iconst 1, 1) := by decide +kernel
theorem dX5_put_23 : decode cX5_put 23 = .ok (.iadd, 1) := by decide +kernel
theorem dX5_put_24 : decode cX5_put 24 = .ok (.putfield 23, 3) := by decide +kernel
theorem dX5_put_27 : decode cX5_put 27 = .ok (.iload_n 1, 1) := by decide +kernel
theorem dX5_put_28 : decode cX5_put 28 = .ok (.iastore, 1) := by decide +kernel
theorem dX5_put_29 : decode cX5_put 29 = .ok (.return_, 1) := by decide +kernel
theorem dX5_readLevel_0 : decode cX5_readLevel 0 = .ok (.iload_n 1, 1) := by decide +kernel
theorem dX5_readLevel_1 : decode cX5_readLevel 1 = .ok (.iconst 2, 1) := by decide +kernel
theorem dX5_readLevel_2 : decode cX5_readLevel 2 = .ok (.if_icmp .ne 12, 3) := by decide +kernel
theorem dX5_readLevel_5 : decode cX5_readLevel 5 = .ok (.aload_n 0, 1) := by decide +kernel
theorem dX5_readLevel_6 : decode cX5_readLevel 6 = .ok (.getfield 46, 3) := by decide +kernel
theorem dX5_readLevel_9 : decode cX5_readLevel 9 = .ok (.bipush 18, 2) := by decide +kernel
theorem dX5_readLevel_11 : decode cX5_readLevel 11 = .ok (.if_icmp .eq 26, 3) := by decide +kernel
theorem dX5_readLevel_14 : decode cX5_readLevel 14 = .ok (.iload_n 1, 1) := by decide +kernel
theorem dX5_readLevel_15 : decode cX5_readLevel 15 = .ok (.iconst 5, 1) := by decide +kernel
theorem dX5_readLevel_16 : decode cX5_readLevel 16 = .ok (.if_icmp .ne 25, 3) := by decide +kernel
theorem dX5_readLevel_19 : decode cX5_readLevel 19 = .ok (.aload_n 0, 1) := by decide +kernel
theorem dX5_readLevel_20 : decode cX5_readLevel 20 = .ok (.getfield 46, 3) := by decide +kernel
theorem dX5_readLevel_23 : decode cX5_readLevel 23 = .ok (.bipush 45, 2) := by decide +kernel
theorem dX5_readLevel_25 : decode cX5_readLevel 25 = .ok (.if_icmp .eq 12, 3) := by decide +kernel
theorem dX5_readLevel_28 : decode cX5_readLevel 28 = .ok (.aload_n 0, 1) := by decide +kernel
theorem dX5_readLevel_29 : decode cX5_readLevel 29 = .ok (.getfield 46, 3) := by decide +kernel
theorem dX5_readLevel_32 : decode cX5_readLevel 32 = .ok (.bipush 40, 2) := by decide +kernel
theorem dX5_readLevel_34 : decode cX5_readLevel 34 = .ok (.if_icmp .ne 7, 3) := by decide +kernel
theorem dX5_readLevel_37 : decode cX5_readLevel 37 = .ok (.iconst 1, 1) := by decide +kernel
theorem dX5_readLevel_38 : decode cX5_readLevel 38 = .ok (.goto 4, 3) := by decide +kernel
theorem dX5_readLevel_41 : decode cX5_readLevel 41 = .ok (.iconst 0, 1) := by decide +kernel
theorem dX5_readLevel_42 : decode cX5_readLevel 42 = .ok (.istore_n 3, 1) := by decide +kernel
theorem dX5_readLevel_43 : decode cX5_readLevel 43 = .ok (.iload_n 3, 1) := by decide +kernel
theorem dX5_readLevel_44 : decode cX5_readLevel 44 = .ok (.ifCond .eq 15, 3) := by decide +kernel
theorem dX5_readLevel_47 : decode cX5_readLevel 47 = .ok (.iload_n 2, 1) := by decide +kernel
theorem dX5_readLevel_48 : decode cX5_readLevel 48 = .ok (.iconst 5, 1) := by decide +kernel
theorem dX5_readLevel_49 : decode cX5_readLevel 49 = .ok (.if_icmp .lt 10, 3) := by decide +kernel
theorem dX5_readLevel_52 : decode cX5_readLevel 52 = .ok (.aload_n 0, 1) := by decide +kernel
theorem dX5_readLevel_53 : decode cX5_readLevel 53 = .ok (.invokevirtual 49, 3) := by decide +kernel
theorem dX5_readLevel_56 : decode cX5_readLevel 56 = .ok (.goto 102, 3) := by decide +kernel
theorem dX5_readLevel_59 : decode cX5_readLevel 59 = .ok (.iload_n 3, 1) := by decide +kernel
theorem dX5_readLevel_60 : decode cX5_readLevel 60 = .ok (.ifCond .eq 12, 3) := by decide +kernel
theorem dX5_readLevel_63 : decode cX5_readLevel 63 = .ok (.aload_n 0, 1) := by decide +kernel
theorem dX5_readLevel_64 : decode cX5_readLevel 64 = .ok (.iload_n 1, 1) := by decide +kernel
theorem dX5_readLevel_65 : decode cX5_readLevel 65 = .ok (.iload_n 2, 1) := by decide +kernel
theorem dX5_readLevel_66 : decode cX5_readLevel 66 = .ok (.invokevirtual 55, 3) := by decide +kernel
theorem dX5_readLevel_69 : decode cX5_readLevel 69 = .ok (.goto 89, 3) := by decide +kernel
theorem dX5_readLevel_72 : decode cX5_readLevel 72 = .ok (.iload_n 1, 1) := by decide +kernel
theorem dX5_readLevel_73 : decode cX5_readLevel 73 = .ok (.iconst 5, 1) := by decide +kernel
theorem dX5_readLevel_74 : decode cX5_readLevel 74 = .ok (.if_icmp .lt 10, 3) := by decide +kernel
theorem dX5_readLevel_77 : decode cX5_readLevel 77 = .ok (.aload_n 0, 1) := by decide +kernel
theorem dX5_readLevel_78 : decode cX5_readLevel 78 = .ok (.invokevirtual 58, 3) := by decide +kernel
theorem dX5_readLevel_81 : decode cX5_readLevel 81 = .ok (.goto 77, 3) := by decide +kernel
theorem dX5_readLevel_84 : decode cX5_readLevel 84 = .ok (.aload_n 0, 1) := by decide +kernel
theorem dX5_readLevel_85 : decode cX5_readLevel 85 = .ok (.iload_n 1, 1) := by decide +kernel
theorem dX5_readLevel_86 : decode cX5_readLevel 86 = .ok (.iconst 1, 1) := by decide +kernel
theorem dX5_readLevel_87 : decode cX5_readLevel 87 = .ok (.iadd, 1) := by decide +kernel
theorem dX5_readLevel_88 : decode cX5_readLevel 88 = .ok (.iload_n 2, 1) := by decide +kernel
theorem dX5_readLevel_89 : decode cX5_readLevel 89 = .ok (.invokevirtual 39, 3) := by decide +kernel
theorem dX5_readLevel_92 : decode cX5_readLevel 92 = .ok (.iload_n 1, 1) := by decide +kernel
theorem dX5_readLevel_93 : decode cX5_readLevel 93 = .ok (.iconst 2, 1) := by decide +kernel
theorem dX5_readLevel_94 : decode cX5_readLevel 94 = .ok (.if_icmp .ne 7, 3) := by decide +kernel
theorem dX5_readLevel_97 : decode cX5_readLevel 97 = .ok (.iconst 1, 1) := by decide +kernel
theorem dX5_readLevel_98 : decode cX5_readLevel 98 = .ok (.goto 6, 3) := by decide +kernel
theorem dX5_readLevel_101 : decode cX5_readLevel 101 = .ok (.sipush 160, 3) := by decide +kernel
theorem dX5_readLevel_104 : decode cX5_readLevel 104 = .ok (.istore 4, 2) := by decide +kernel
theorem dX5_readLevel_106 : decode cX5_readLevel 106 = .ok (.iconst 0, 1) := by decide +kernel
theorem dX5_readLevel_107 : decode cX5_readLevel 107 = .ok (.istore 5, 2) := by decide +kernel
theorem dX5_readLevel_109 : decode cX5_readLevel 109 = .ok (.iload 5, 2) := by decide +kernel
theorem dX5_readLevel_111 : decode cX5_readLevel 111 = .ok (.iload 4, 2) := by decide +kernel
theorem dX5_readLevel_113 : decode cX5_readLevel 113 = .ok (.if_icmp .ge 45, 3) := by decide +kernel
theorem dX5_readLevel_116 : decode cX5_readLevel 116 = .ok (.iload_n 1, 1) := by decide +kernel
theorem dX5_readLevel_117 : decode cX5_readLevel 117 = .ok (.aload_n 0, 1) := by decide +kernel
theorem dX5_readLevel_118 : decode cX5_readLevel 118 = .ok (.getfield 46, 3) := by decide +kernel
theorem dX5_readLevel_121 : decode cX5_readLevel 121 = .ok (.invokestatic 61, 3) := by decide +kernel
theorem dX5_readLevel_124 : decode cX5_readLevel 124 = .ok (.if_icmp .ne 34, 3) := by decide +kernel
theorem dX5_readLevel_127 : decode cX5_readLevel 127 = .ok (.aload_n 0, 1) := by decide +kernel
theorem dX5_readLevel_128 : decode cX5_readLevel 128 = .ok (.getfield 46, 3) := by decide +kernel
theorem dX5_readLevel_131 : decode cX5_readLevel 131 = .ok (.ineg, 1) := by decide +kernel
theorem dX5_readLevel_132 : decode cX5_readLevel 132 = .ok (.istore 6, 2) := by decide +kernel
theorem dX5_readLevel_134 : decode cX5_readLevel 134 = .ok (.aload_n 0, 1) := by decide +kernel
theorem dX5_readLevel_135 : decode cX5_readLevel 135 = .ok (.invokevirtual 32, 3) := by decide +kernel
theorem dX5_readLevel_138 : decode cX5_readLevel 138 = .ok (.aload_n 0, 1) := by decide +kernel
theorem dX5_readLevel_139 : decode cX5_readLevel 139 = .ok (.iload_n 1, 1) := by decide +kernel
theorem dX5_readLevel_140 : decode cX5_readLevel 140 = .ok (.iconst 1, 1) := by decide +kernel
theorem dX5_readLevel_141 : decode cX5_readLevel 141 = .ok (.iadd, 1) := by decide +kernel
theorem dX5_readLevel_142 : decode cX5_readLevel 142 = .ok (.iload_n 2, 1) := by decide +kernel
theorem dX5_readLevel_143 : decode cX5_readLevel 143 = .ok (.invokevirtual 39, 3) := by decide +kernel
theorem dX5_readLevel_146 : decode cX5_readLevel 146 = .ok (.aload_n 0, 1) := by decide +kernel
theorem dX5_readLevel_147 : decode cX5_readLevel 147 = .ok (.iload 6, 2) := by decide +kernel
theorem dX5_readLevel_149 : decode cX5_readLevel 149 = .ok (.invokevirtual 65, 3) := by decide +kernel
theorem dX5_readLevel_152 : decode cX5_readLevel 152 = .ok (.iinc 5 1, 3) := by decide +kernel
theorem dX5_readLevel_155 : decode cX5_readLevel 155 = .ok (.goto (-46), 3) := by decide +kernel
theorem dX5_readLevel_158 : decode cX5_readLevel 158 = .ok (.return_, 1) := by decide +kernel
theorem dX5_readOpened_0 : decode cX5_readOpened 0 = .ok (.aload_n 0, 1) := by decide +kernel
theorem dX5_readOpened_1 : decode cX5_readOpened 1 = .ok (.getfield 46, 3) := by decide +kernel
theorem dX5_readOpened_4 : decode cX5_readOpened 4 = .ok (.istore_n 3, 1) := by decide +kernel
theorem dX5_readOpened_5 : decode cX5_readOpened 5 = .ok (.aload_n 0, 1) := by decide +kernel
theorem dX5_readOpened_6 : decode cX5_readOpened 6 = .ok (.invokevirtual 32, 3) := by decide +kernel
theorem dX5_readOpened_9 : decode cX5_readOpened 9 = .ok (.aload_n 0, 1) := by decide +kernel
theorem dX5_readOpened_10 : decode cX5_readOpened 10 = .ok (.iload_n 3, 1) := by decide +kernel
theorem dX5_readOpened_11 : decode cX5_readOpened 11 = .ok (.bipush 40, 2) := by decide +kernel
theorem dX5_readOpened_13 : decode cX5_readOpened 13 = .ok (.if_icmp .ne 7, 3) := by decide +kernel
theorem dX5_readOpened_16 : decode cX5_readOpened 16 = .ok (.iconst 0, 1) := by decide +kernel
theorem dX5_readOpened_17 : decode cX5_readOpened 17 = .ok (.goto 4, 3) := by decide +kernel
theorem dX5_readOpened_20 : decode cX5_readOpened 20 = .ok (.iload_n 1, 1) := by decide +kernel
theorem dX5_readOpened_21 : decode cX5_readOpened 21 = .ok (.iload_n 2, 1) := by decide +kernel
theorem dX5_readOpened_22 : decode cX5_readOpened 22 = .ok (.iconst 1, 1) := by decide +kernel
theorem dX5_readOpened_23 : decode cX5_readOpened 23 = .ok (.iadd, 1) := by decide +kernel
theorem dX5_readOpened_24 : decode cX5_readOpened 24 = .ok (.invokevirtual 39, 3) := by decide +kernel
theorem dX5_readOpened_27 : decode cX5_readOpened 27 = .ok (.iload_n 3, 1) := by decide +kernel
theorem dX5_readOpened_28 : decode cX5_readOpened 28 = .ok (.bipush 40, 2) := by decide +kernel
theorem dX5_readOpened_30 : decode cX5_readOpened 30 = .ok (.if_icmp .ne 12, 3) := by decide +kernel
theorem dX5_readOpened_33 : decode cX5_readOpened 33 = .ok (.aload_n 0, 1) := by decide +kernel
theorem dX5_readOpened_34 : decode cX5_readOpened 34 = .ok (.bipush 41, 2) := by decide +kernel
theorem dX5_readOpened_36 : decode cX5_readOpened 36 = .ok (.invokevirtual 35, 3) := by decide +kernel
theorem dX5_readOpened_39 : decode cX5_readOpened 39 = .ok (.goto 20, 3) := by decide +kernel
theorem dX5_readOpened_42 : decode cX5_readOpened 42 = .ok (.aload_n 0, 1) := by decide +kernel
theorem dX5_readOpened_43 : decode cX5_readOpened 43 = .ok (.iload_n 3, 1) := by decide +kernel
theorem dX5_readOpened_44 : decode cX5_readOpened 44 = .ok (.bipush 18, 2) := by decide +kernel
theorem dX5_readOpened_46 : decode cX5_readOpened 46 = .ok (.if_icmp .ne 8, 3) := by decide +kernel
theorem dX5_readOpened_49 : decode cX5_readOpened 49 = .ok (.bipush (-18), 2) := by decide +kernel
theorem dX5_readOpened_51 : decode cX5_readOpened 51 = .ok (.goto 5, 3) := by decide +kernel
theorem dX5_readOpened_54 : decode cX5_readOpened 54 = .ok (.bipush (-9), 2) := by decide +kernel
theorem dX5_readOpened_56 : decode cX5_readOpened 56 = .ok (.invokevirtual 65, 3) := by decide +kernel
theorem dX5_readOpened_59 : decode cX5_readOpened 59 = .ok (.return_, 1) := by decide +kernel
theorem dX5_readLeaf_0 : decode cX5_readLeaf 0 = .ok (.aload_n 0, 1) := by decide +kernel
theorem dX5_readLeaf_1 : decode cX5_readLeaf 1 = .ok (.getfield 46, 3) := by decide +kernel
theorem dX5_readLeaf_4 : decode cX5_readLeaf 4 = .ok (.bipush 12, 2) := by decide +kernel
theorem dX5_readLeaf_6 : decode cX5_readLeaf 6 = .ok (.if_icmp .eq 12, 3) := by decide +kernel
theorem dX5_readLeaf_9 : decode cX5_readLeaf 9 = .ok (.aload_n 0, 1) := by decide +kernel
theorem dX5_readLeaf_10 : decode cX5_readLeaf 10 = .ok (.getfield 46, 3) := by decide +kernel
theorem dX5_readLeaf_13 : decode cX5_readLeaf 13 = .ok (.bipush 13, 2) := by decide +kernel
theorem dX5_readLeaf_15 : decode cX5_readLeaf 15 = .ok (.if_icmp .ne 36, 3) := by decide +kernel
theorem dX5_readLeaf_18 : decode cX5_readLeaf 18 = .ok (.aload_n 0, 1) := by decide +kernel
theorem dX5_readLeaf_19 : decode cX5_readLeaf 19 = .ok (.aload_n 0, 1) := by decide +kernel
theorem dX5_readLeaf_20 : decode cX5_readLeaf 20 = .ok (.getfield 46, 3) := by decide +kernel
theorem dX5_readLeaf_23 : decode cX5_readLeaf 23 = .ok (.bipush 12, 2) := by decide +kernel
theorem dX5_readLeaf_25 : decode cX5_readLeaf 25 = .ok (.if_icmp .ne 10, 3) := by decide +kernel
theorem dX5_readLeaf_28 : decode cX5_readLeaf 28 = .ok (.aload_n 0, 1) := by decide +kernel
theorem dX5_readLeaf_29 : decode cX5_readLeaf 29 = .ok (.getfield 68, 3) := by decide +kernel
theorem dX5_readLeaf_32 : decode cX5_readLeaf 32 = .ok (.goto 9, 3) := by decide +kernel
theorem dX5_readLeaf_35 : decode cX5_readLeaf 35 = .ok (.iconst (-1), 1) := by decide +kernel
theorem dX5_readLeaf_36 : decode cX5_readLeaf 36 = .ok (.aload_n 0, 1) := by decide +kernel
theorem dX5_readLeaf_37 : decode cX5_readLeaf 37 = .ok (.getfield 68, 3) := by decide +kernel
theorem dX5_readLeaf_40 : decode cX5_readLeaf 40 = .ok (.isub, 1) := by decide +kernel
theorem dX5_readLeaf_41 : decode cX5_readLeaf 41 = .ok (.invokevirtual 65, 3) := by decide +kernel
theorem dX5_readLeaf_44 : decode cX5_readLeaf 44 = .ok (.aload_n 0, 1) := by decide +kernel
theorem dX5_readLeaf_45 : decode cX5_readLeaf 45 = .ok (.invokevirtual 32, 3) := by decide +kernel
theorem dX5_readLeaf_48 : decode cX5_readLeaf 48 = .ok (.goto 7, 3) := by decide +kernel
theorem dX5_readLeaf_51 : decode cX5_readLeaf 51 = .ok (.aload_n 0, 1) := by decide +kernel
theorem dX5_readLeaf_52 : decode cX5_readLeaf 52 = .ok (.invokevirtual 49, 3) := by decide +kernel
theorem dX5_readLeaf_55 : decode cX5_readLeaf 55 = .ok (.return_, 1) := by decide +kernel
theorem dX5_joinLevel_0 : decode cX5_joinLevel 0 = .ok (.iload_n 0, 1) := by decide +kernel
theorem dX5_joinLevel_1 : decode cX5_joinLevel 1 = .ok (.lookupswitch 77 #[(16, 67), (17, 69), (42, 75), (43, 73), (45, 73), (60, 71), (61, 71)], 67) := by decide +kernel
theorem dX5_joinLevel_68 : decode cX5_joinLevel 68 = .ok (.iconst 0, 1) := by decide +kernel
theorem dX5_joinLevel_69 : decode cX5_joinLevel 69 = .ok (.ireturn, 1) := by decide +kernel
theorem dX5_joinLevel_70 : decode cX5_joinLevel 70 = .ok (.iconst 1, 1) := by decide +kernel
theorem dX5_joinLevel_71 : decode cX5_joinLevel 71 = .ok (.ireturn, 1) := by decide +kernel
theorem dX5_joinLevel_72 : decode cX5_joinLevel 72 = .ok (.iconst 2, 1) := by decide +kernel
theorem dX5_joinLevel_73 : decode cX5_joinLevel 73 = .ok (.ireturn, 1) := by decide +kernel
theorem dX5_joinLevel_74 : decode cX5_joinLevel 74 = .ok (.iconst 3, 1) := by decide +kernel
theorem dX5_joinLevel_75 : decode cX5_joinLevel 75 = .ok (.ireturn, 1) := by decide +kernel
theorem dX5_joinLevel_76 : decode cX5_joinLevel 76 = .ok (.iconst 4, 1) := by decide +kernel
theorem dX5_joinLevel_77 : decode cX5_joinLevel 77 = .ok (.ireturn, 1) := by decide +kernel
theorem dX5_joinLevel_78 : decode cX5_joinLevel 78 = .ok (.iconst (-1), 1) := by decide +kernel
theorem dX5_joinLevel_79 : decode cX5_joinLevel 79 = .ok (.ireturn, 1) := by decide +kernel
theorem dX5_nextToken_0 : decode cX5_nextToken 0 = .ok (.aload_n 0, 1) := by decide +kernel
theorem dX5_nextToken_1 : decode cX5_nextToken 1 = .ok (.getfield 26, 3) := by decide +kernel
theorem dX5_nextToken_4 : decode cX5_nextToken 4 = .ok (.aload_n 0, 1) := by decide +kernel
theorem dX5_nextToken_5 : decode cX5_nextToken 5 = .ok (.getfield 19, 3) := by decide +kernel
theorem dX5_nextToken_8 : decode cX5_nextToken 8 = .ok (.if_icmp .ge 44, 3) := by decide +kernel
theorem dX5_nextToken_11 : decode cX5_nextToken 11 = .ok (.aload_n 0, 1) := by decide +kernel
theorem dX5_nextToken_12 : decode cX5_nextToken 12 = .ok (.getfield 11, 3) := by decide +kernel
theorem dX5_nextToken_15 : decode cX5_nextToken 15 = .ok (.aload_n 0, 1) := by decide +kernel
theorem dX5_nextToken_16 : decode cX5_nextToken 16 = .ok (.getfield 26, 3) := by decide +kernel
theorem dX5_nextToken_19 : decode cX5_nextToken 19 = .ok (.baload, 1) := by decide +kernel
theorem dX5_nextToken_20 : decode cX5_nextToken 20 = .ok (.bipush 32, 2) := by decide +kernel
theorem dX5_nextToken_22 : decode cX5_nextToken 22 = .ok (.if_icmp .eq 17, 3) := by decide +kernel
theorem dX5_nextToken_25 : decode cX5_nextToken 25 = .ok (.aload_n 0, 1) := by decide +kernel
theorem dX5_nextToken_26 : decode cX5_nextToken 26 = .ok (.getfield 11, 3) := by decide +kernel
theorem dX5_nextToken_29 : decode cX5_nextToken 29 = .ok (.aload_n 0, 1) := by decide +kernel
theorem dX5_nextToken_30 : decode cX5_nextToken 30 = .ok (.getfield 26, 3) := by decide +kernel
theorem dX5_nextToken_33 : decode cX5_nextToken 33 = .ok (.baload, 1) := by decide +kernel
theorem dX5_nextToken_34 : decode cX5_nextToken 34 = .ok (.bipush 10, 2) := by decide +kernel
theorem dX5_nextToken_36 : decode cX5_nextToken 36 = .ok (.if_icmp .ne 16, 3) := by decide +kernel
theorem dX5_nextToken_39 : decode cX5_nextToken 39 = .ok (.aload_n 0, 1) := by decide +kernel
theorem dX5_nextToken_40 : decode cX5_nextToken 40 = .ok (.dup, 1) := by decide +kernel
theorem dX5_nextToken_41 : decode cX5_nextToken 41 = .ok (.getfield 26, 3) := by decide +kernel
theorem dX5_nextToken_44 : decode cX5_nextToken 44 = .ok (.iconst 1, 1) := by decide +kernel
theorem dX5_nextToken_45 : decode cX5_nextToken 45 = .ok (.iadd, 1) := by decide +kernel
theorem dX5_nextToken_46 : decode cX5_nextToken 46 = .ok (.putfield 26, 3) := by decide +kernel
theorem dX5_nextToken_49 : decode cX5_nextToken 49 = .ok (.goto (-49), 3) := by decide +kernel
theorem dX5_nextToken_52 : decode cX5_nextToken 52 = .ok (.aload_n 0, 1) := by decide +kernel
theorem dX5_nextToken_53 : decode cX5_nextToken 53 = .ok (.aload_n 0, 1) := by decide +kernel
theorem dX5_nextToken_54 : decode cX5_nextToken 54 = .ok (.getfield 26, 3) := by decide +kernel
theorem dX5_nextToken_57 : decode cX5_nextToken 57 = .ok (.putfield 52, 3) := by decide +kernel
theorem dX5_nextToken_60 : decode cX5_nextToken 60 = .ok (.aload_n 0, 1) := by decide +kernel
theorem dX5_nextToken_61 : decode cX5_nextToken 61 = .ok (.getfield 26, 3) := by decide +kernel
theorem dX5_nextToken_64 : decode cX5_nextToken 64 = .ok (.aload_n 0, 1) := by decide +kernel
theorem dX5_nextToken_65 : decode cX5_nextToken 65 = .ok (.getfield 19, 3) := by decide +kernel
theorem dX5_nextToken_68 : decode cX5_nextToken 68 = .ok (.if_icmp .lt 12, 3) := by decide +kernel
theorem dX5_nextToken_71 : decode cX5_nextToken 71 = .ok (.aload_n 0, 1) := by decide +kernel
theorem dX5_nextToken_72 : decode cX5_nextToken 72 = .ok (.bipush 11, 2) := by decide +kernel
theorem dX5_nextToken_74 : decode cX5_nextToken 74 = .ok (.putfield 46, 3) := by decide +kernel
theorem dX5_nextToken_77 : decode cX5_nextToken 77 = .ok (.goto 90, 3) := by decide +kernel
theorem dX5_nextToken_80 : decode cX5_nextToken 80 = .ok (.aload_n 0, 1) := by decide +kernel
theorem dX5_nextToken_81 : decode cX5_nextToken 81 = .ok (.getfield 11, 3) := by decide +kernel
theorem dX5_nextToken_84 : decode cX5_nextToken 84 = .ok (.aload_n 0, 1) := by decide +kernel
theorem dX5_nextToken_85 : decode cX5_nextToken 85 = .ok (.getfield 26, 3) := by decide +kernel
theorem dX5_nextToken_88 : decode cX5_nextToken 88 = .ok (.baload, 1) := by decide +kernel
theorem dX5_nextToken_89 : decode cX5_nextToken 89 = .ok (.invokestatic 71, 3) := by decide +kernel
theorem dX5_nextToken_92 : decode cX5_nextToken 92 = .ok (.ifCond .eq 10, 3) := by decide +kernel
theorem dX5_nextToken_95 : decode cX5_nextToken 95 = .ok (.aload_n 0, 1) := by decide +kernel
theorem dX5_nextToken_96 : decode cX5_nextToken 96 = .ok (.invokevirtual 75, 3) := by decide +kernel
theorem dX5_nextToken_99 : decode cX5_nextToken 99 = .ok (.goto 68, 3) := by decide +kernel
theorem dX5_nextToken_102 : decode cX5_nextToken 102 = .ok (.aload_n 0, 1) := by decide +kernel
theorem dX5_nextToken_103 : decode cX5_nextToken 103 = .ok (.getfield 11, 3) := by decide +kernel
theorem dX5_nextToken_106 : decode cX5_nextToken 106 = .ok (.aload_n 0, 1) := by decide +kernel
theorem dX5_nextToken_107 : decode cX5_nextToken 107 = .ok (.getfield 26, 3) := by decide +kernel
theorem dX5_nextToken_110 : decode cX5_nextToken 110 = .ok (.baload, 1) := by decide +kernel
theorem dX5_nextToken_111 : decode cX5_nextToken 111 = .ok (.invokestatic 78, 3) := by decide +kernel
theorem dX5_nextToken_114 : decode cX5_nextToken 114 = .ok (.ifCond .eq 10, 3) := by decide +kernel
theorem dX5_nextToken_117 : decode cX5_nextToken 117 = .ok (.aload_n 0, 1) := by decide +kernel
theorem dX5_nextToken_118 : decode cX5_nextToken 118 = .ok (.invokevirtual 81, 3) := by decide +kernel
theorem dX5_nextToken_121 : decode cX5_nextToken 121 = .ok (.goto 46, 3) := by decide +kernel
theorem dX5_nextToken_124 : decode cX5_nextToken 124 = .ok (.aload_n 0, 1) := by decide +kernel
theorem dX5_nextToken_125 : decode cX5_nextToken 125 = .ok (.aload_n 0, 1) := by decide +kernel
theorem dX5_nextToken_126 : decode cX5_nextToken 126 = .ok (.getfield 11, 3) := by decide +kernel
theorem dX5_nextToken_129 : decode cX5_nextToken 129 = .ok (.aload_n 0, 1) := by decide +kernel
theorem dX5_nextToken_130 : decode cX5_nextToken 130 = .ok (.getfield 26, 3) := by decide +kernel
theorem dX5_nextToken_133 : decode cX5_nextToken 133 = .ok (.baload, 1) := by decide +kernel
theorem dX5_nextToken_134 : decode cX5_nextToken 134 = .ok (.invokestatic 84, 3) := by decide +kernel
theorem dX5_nextToken_137 : decode cX5_nextToken 137 = .ok (.ifCond .eq 15, 3) := by decide +kernel
theorem dX5_nextToken_140 : decode cX5_nextToken 140 = .ok (.aload_n 0, 1) := by decide +kernel
theorem dX5_nextToken_141 : decode cX5_nextToken 141 = .ok (.getfield 11, 3) := by decide +kernel
theorem dX5_nextToken_144 : decode cX5_nextToken 144 = .ok (.aload_n 0, 1) := by decide +kernel
theorem dX5_nextToken_145 : decode cX5_nextToken 145 = .ok (.getfield 26, 3) := by decide +kernel
theorem dX5_nextToken_148 : decode cX5_nextToken 148 = .ok (.baload, 1) := by decide +kernel
theorem dX5_nextToken_149 : decode cX5_nextToken 149 = .ok (.goto 5, 3) := by decide +kernel
theorem dX5_nextToken_152 : decode cX5_nextToken 152 = .ok (.bipush 10, 2) := by decide +kernel
theorem dX5_nextToken_154 : decode cX5_nextToken 154 = .ok (.putfield 46, 3) := by decide +kernel
theorem dX5_nextToken_157 : decode cX5_nextToken 157 = .ok (.aload_n 0, 1) := by decide +kernel
theorem dX5_nextToken_158 : decode cX5_nextToken 158 = .ok (.dup, 1) := by decide +kernel
theorem dX5_nextToken_159 : decode cX5_nextToken 159 = .ok (.getfield 26, 3) := by decide +kernel
theorem dX5_nextToken_162 : decode cX5_nextToken 162 = .ok (.iconst 1, 1) := by decide +kernel
theorem dX5_nextToken_163 : decode cX5_nextToken 163 = .ok (.iadd, 1) := by decide +kernel
theorem dX5_nextToken_164 : decode cX5_nextToken 164 = .ok (.putfield 26, 3) := by decide +kernel
theorem dX5_nextToken_167 : decode cX5_nextToken 167 = .ok (.return_, 1) := by decide +kernel
theorem dX5_takeWord_0 : decode cX5_takeWord 0 = .ok (.aload_n 0, 1) := by decide +kernel
theorem dX5_takeWord_1 : decode cX5_takeWord 1 = .ok (.getfield 26, 3) := by decide +kernel
theorem dX5_takeWord_4 : decode cX5_takeWord 4 = .ok (.aload_n 0, 1) := by decide +kernel
theorem dX5_takeWord_5 : decode cX5_takeWord 5 = .ok (.getfield 19, 3) := by decide +kernel
theorem dX5_takeWord_8 : decode cX5_takeWord 8 = .ok (.if_icmp .ge 31, 3) := by decide +kernel
theorem dX5_takeWord_11 : decode cX5_takeWord 11 = .ok (.aload_n 0, 1) := by decide +kernel
theorem dX5_takeWord_12 : decode cX5_takeWord 12 = .ok (.getfield 11, 3) := by decide +kernel
theorem dX5_takeWord_15 : decode cX5_takeWord 15 = .ok (.aload_n 0, 1) := by decide +kernel
theorem dX5_takeWord_16 : decode cX5_takeWord 16 = .ok (.getfield 26, 3) := by decide +kernel
theorem dX5_takeWord_19 : decode cX5_takeWord 19 = .ok (.baload, 1) := by decide +kernel
theorem dX5_takeWord_20 : decode cX5_takeWord 20 = .ok (.invokestatic 71, 3) := by decide +kernel
theorem dX5_takeWord_23 : decode cX5_takeWord 23 = .ok (.ifCond .eq 16, 3) := by decide +kernel
theorem dX5_takeWord_26 : decode cX5_takeWord 26 = .ok (.aload_n 0, 1) := by decide +kernel
theorem dX5_takeWord_27 : decode cX5_takeWord 27 = .ok (.dup, 1) := by decide +kernel
theorem dX5_takeWord_28 : decode cX5_takeWord 28 = .ok (.getfield 26, 3) := by decide +kernel
theorem dX5_takeWord_31 : decode cX5_takeWord 31 = .ok (.iconst 1, 1) := by decide +kernel
theorem dX5_takeWord_32 : decode cX5_takeWord 32 = .ok (.iadd, 1) := by decide +kernel
theorem dX5_takeWord_33 : decode cX5_takeWord 33 = .ok (.putfield 26, 3) := by decide +kernel
theorem dX5_takeWord_36 : decode cX5_takeWord 36 = .ok (.goto (-36), 3) := by decide +kernel
theorem dX5_takeWord_39 : decode cX5_takeWord 39 = .ok (.aload_n 0, 1) := by decide +kernel
theorem dX5_takeWord_40 : decode cX5_takeWord 40 = .ok (.aload_n 0, 1) := by decide +kernel
theorem dX5_takeWord_41 : decode cX5_takeWord 41 = .ok (.ldc 87, 2) := by decide +kernel
theorem dX5_takeWord_43 : decode cX5_takeWord 43 = .ok (.invokevirtual 89, 3) := by decide +kernel
theorem dX5_takeWord_46 : decode cX5_takeWord 46 = .ok (.ifCond .eq 7, 3) := by decide +kernel
theorem dX5_takeWord_49 : decode cX5_takeWord 49 = .ok (.iconst 0, 1) := by decide +kernel
theorem dX5_takeWord_50 : decode cX5_takeWord 50 = .ok (.goto 69, 3) := by decide +kernel
theorem dX5_takeWord_53 : decode cX5_takeWord 53 = .ok (.aload_n 0, 1) := by decide +kernel
theorem dX5_takeWord_54 : decode cX5_takeWord 54 = .ok (.ldc 93, 2) := by decide +kernel
theorem dX5_takeWord_56 : decode cX5_takeWord 56 = .ok (.invokevirtual 89, 3) := by decide +kernel
theorem dX5_takeWord_59 : decode cX5_takeWord 59 = .ok (.ifCond .eq 7, 3) := by decide +kernel
theorem dX5_takeWord_62 : decode cX5_takeWord 62 = .ok (.iconst 1, 1) := by decide +kernel
theorem dX5_takeWord_63 : decode cX5_takeWord 63 = .ok (.goto 56, 3) := by decide +kernel
theorem dX5_takeWord_66 : decode cX5_takeWord 66 = .ok (.aload_n 0, 1) := by decide +kernel
theorem dX5_takeWord_67 : decode cX5_takeWord 67 = .ok (.ldc 95, 2) := by decide +kernel
theorem dX5_takeWord_69 : decode cX5_takeWord 69 = .ok (.invokevirtual 89, 3) := by decide +kernel
theorem dX5_takeWord_72 : decode cX5_takeWord 72 = .ok (.ifCond .eq 7, 3) := by decide +kernel
theorem dX5_takeWord_75 : decode cX5_takeWord 75 = .ok (.iconst 2, 1) := by decide +kernel
theorem dX5_takeWord_76 : decode cX5_takeWord 76 = .ok (.goto 43, 3) := by decide +kernel
theorem dX5_takeWord_79 : decode cX5_takeWord 79 = .ok (.aload_n 0, 1) := by decide +kernel
theorem dX5_takeWord_80 : decode cX5_takeWord 80 = .ok (.ldc 97, 2) := by decide +kernel
theorem dX5_takeWord_82 : decode cX5_takeWord 82 = .ok (.invokevirtual 89, 3) := by decide +kernel
theorem dX5_takeWord_85 : decode cX5_takeWord 85 = .ok (.ifCond .eq 7, 3) := by decide +kernel
theorem dX5_takeWord_88 : decode cX5_takeWord 88 = .ok (.iconst 3, 1) := by decide +kernel
theorem dX5_takeWord_89 : decode cX5_takeWord 89 = .ok (.goto 30, 3) := by decide +kernel
theorem dX5_takeWord_92 : decode cX5_takeWord 92 = .ok (.aload_n 0, 1) := by decide +kernel
theorem dX5_takeWord_93 : decode cX5_takeWord 93 = .ok (.ldc 99, 2) := by decide +kernel
theorem dX5_takeWord_95 : decode cX5_takeWord 95 = .ok (.invokevirtual 89, 3) := by decide +kernel
theorem dX5_takeWord_98 : decode cX5_takeWord 98 = .ok (.ifCond .eq 7, 3) := by decide +kernel
theorem dX5_takeWord_101 : decode cX5_takeWord 101 = .ok (.iconst 4, 1) := by decide +kernel
theorem dX5_takeWord_102 : decode cX5_takeWord 102 = .ok (.goto 17, 3) := by decide +kernel
theorem dX5_takeWord_105 : decode cX5_takeWord 105 = .ok (.aload_n 0, 1) := by decide +kernel
theorem dX5_takeWord_106 : decode cX5_takeWord 106 = .ok (.ldc 101, 2) := by decide +kernel
theorem dX5_takeWord_108 : decode cX5_takeWord 108 = .ok (.invokevirtual 89, 3) := by decide +kernel
theorem dX5_takeWord_111 : decode cX5_takeWord 111 = .ok (.ifCond .eq 7, 3) := by decide +kernel
theorem dX5_takeWord_114 : decode cX5_takeWord 114 = .ok (.iconst 5, 1) := by decide +kernel
theorem dX5_takeWord_115 : decode cX5_takeWord 115 = .ok (.goto 4, 3) := by decide +kernel
theorem dX5_takeWord_118 : decode cX5_takeWord 118 = .ok (.iconst (-1), 1) := by decide +kernel
theorem dX5_takeWord_119 : decode cX5_takeWord 119 = .ok (.putfield 68, 3) := by decide +kernel
theorem dX5_takeWord_122 : decode cX5_takeWord 122 = .ok (.aload_n 0, 1) := by decide +kernel
theorem dX5_takeWord_123 : decode cX5_takeWord 123 = .ok (.getfield 68, 3) := by decide +kernel
theorem dX5_takeWord_126 : decode cX5_takeWord 126 = .ok (.iconst (-1), 1) := by decide +kernel
theorem dX5_takeWord_127 : decode cX5_takeWord 127 = .ok (.if_icmp .eq 10, 3) := by decide +kernel
theorem dX5_takeWord_130 : decode cX5_takeWord 130 = .ok (.aload_n 0, 1) := by decide +kernel
theorem dX5_takeWord_131 : decode cX5_takeWord 131 = .ok (.bipush 13, 2) := by decide +kernel
theorem dX5_takeWord_133 : decode cX5_takeWord 133 = .ok (.putfield 46, 3) := by decide +kernel
theorem dX5_takeWord_136 : decode cX5_takeWord 136 = .ok (.return_, 1) := by decide +kernel
theorem dX5_takeWord_137 : decode cX5_takeWord 137 = .ok (.aload_n 0, 1) := by decide +kernel
theorem dX5_takeWord_138 : decode cX5_takeWord 138 = .ok (.aload_n 0, 1) := by decide +kernel
theorem dX5_takeWord_139 : decode cX5_takeWord 139 = .ok (.ldc 103, 2) := by decide +kernel
theorem dX5_takeWord_141 : decode cX5_takeWord 141 = .ok (.invokevirtual 89, 3) := by decide +kernel
theorem dX5_takeWord_144 : decode cX5_takeWord 144 = .ok (.ifCond .eq 8, 3) := by decide +kernel
theorem dX5_takeWord_147 : decode cX5_takeWord 147 = .ok (.bipush 14, 2) := by decide +kernel
theorem dX5_takeWord_149 : decode cX5_takeWord 149 = .ok (.goto 61, 3) := by decide +kernel
theorem dX5_takeWord_152 : decode cX5_takeWord 152 = .ok (.aload_n 0, 1) := by decide +kernel
theorem dX5_takeWord_153 : decode cX5_takeWord 153 = .ok (.ldc 105, 2) := by decide +kernel
theorem dX5_takeWord_155 : decode cX5_takeWord 155 = .ok (.invokevirtual 89, 3) := by decide +kernel
theorem dX5_takeWord_158 : decode cX5_takeWord 158 = .ok (.ifCond .eq 8, 3) := by decide +kernel
theorem dX5_takeWord_161 : decode cX5_takeWord 161 = .ok (.bipush 15, 2) := by decide +kernel
theorem dX5_takeWord_163 : decode cX5_takeWord 163 = .ok (.goto 47, 3) := by decide +kernel
theorem dX5_takeWord_166 : decode cX5_takeWord 166 = .ok (.aload_n 0, 1) := by decide +kernel
theorem dX5_takeWord_167 : decode cX5_takeWord 167 = .ok (.ldc 107, 2) := by decide +kernel
theorem dX5_takeWord_169 : decode cX5_takeWord 169 = .ok (.invokevirtual 89, 3) := by decide +kernel
theorem dX5_takeWord_172 : decode cX5_takeWord 172 = .ok (.ifCond .eq 8, 3) := by decide +kernel
theorem dX5_takeWord_175 : decode cX5_takeWord 175 = .ok (.bipush 16, 2) := by decide +kernel
theorem dX5_takeWord_177 : decode cX5_takeWord 177 = .ok (.goto 33, 3) := by decide +kernel
theorem dX5_takeWord_180 : decode cX5_takeWord 180 = .ok (.aload_n 0, 1) := by decide +kernel
theorem dX5_takeWord_181 : decode cX5_takeWord 181 = .ok (.ldc 109, 2) := by decide +kernel
theorem dX5_takeWord_183 : decode cX5_takeWord 183 = .ok (.invokevirtual 89, 3) := by decide +kernel
theorem dX5_takeWord_186 : decode cX5_takeWord 186 = .ok (.ifCond .eq 8, 3) := by decide +kernel
theorem dX5_takeWord_189 : decode cX5_takeWord 189 = .ok (.bipush 17, 2) := by decide +kernel
theorem dX5_takeWord_191 : decode cX5_takeWord 191 = .ok (.goto 19, 3) := by decide +kernel
theorem dX5_takeWord_194 : decode cX5_takeWord 194 = .ok (.aload_n 0, 1) := by decide +kernel
theorem dX5_takeWord_195 : decode cX5_takeWord 195 = .ok (.ldc 111, 2) := by decide +kernel
theorem dX5_takeWord_197 : decode cX5_takeWord 197 = .ok (.invokevirtual 89, 3) := by decide +kernel
theorem dX5_takeWord_200 : decode cX5_takeWord 200 = .ok (.ifCond .eq 8, 3) := by decide +kernel
theorem dX5_takeWord_203 : decode cX5_takeWord 203 = .ok (.bipush 18, 2) := by decide +kernel
theorem dX5_takeWord_205 : decode cX5_takeWord 205 = .ok (.goto 5, 3) := by decide +kernel
theorem dX5_takeWord_208 : decode cX5_takeWord 208 = .ok (.bipush 10, 2) := by decide +kernel
theorem dX5_takeWord_210 : decode cX5_takeWord 210 = .ok (.putfield 46, 3) := by decide +kernel
theorem dX5_takeWord_213 : decode cX5_takeWord 213 = .ok (.return_, 1) := by decide +kernel
theorem dX5_spells_0 : decode cX5_spells 0 = .ok (.aload_n 0, 1) := by decide +kernel
theorem dX5_spells_1 : decode cX5_spells 1 = .ok (.getfield 26, 3) := by decide +kernel
theorem dX5_spells_4 : decode cX5_spells 4 = .ok (.aload_n 0, 1) := by decide +kernel
theorem dX5_spells_5 : decode cX5_spells 5 = .ok (.getfield 52, 3) := by decide +kernel
theorem dX5_spells_8 : decode cX5_spells 8 = .ok (.isub, 1) := by decide +kernel
theorem dX5_spells_9 : decode cX5_spells 9 = .ok (.aload_n 1, 1) := by decide +kernel
theorem dX5_spells_10 : decode cX5_spells 10 = .ok (.invokevirtual 113, 3) := by decide +kernel
theorem dX5_spells_13 : decode cX5_spells 13 = .ok (.if_icmp .eq 5, 3) := by decide +kernel
theorem dX5_spells_16 : decode cX5_spells 16 = .ok (.iconst 0, 1) := by decide +kernel
theorem dX5_spells_17 : decode cX5_spells 17 = .ok (.ireturn, 1) := by decide +kernel
theorem dX5_spells_18 : decode cX5_spells 18 = .ok (.iconst 0, 1) := by decide +kernel
theorem dX5_spells_19 : decode cX5_spells 19 = .ok (.istore_n 2, 1) := by decide +kernel
theorem dX5_spells_20 : decode cX5_spells 20 = .ok (.iload_n 2, 1) := by decide +kernel
theorem dX5_spells_21 : decode cX5_spells 21 = .ok (.aload_n 1, 1) := by decide +kernel
theorem dX5_spells_22 : decode cX5_spells 22 = .ok (.invokevirtual 113, 3) := by decide +kernel
theorem dX5_spells_25 : decode cX5_spells 25 = .ok (.if_icmp .ge 30, 3) := by decide +kernel
theorem dX5_spells_28 : decode cX5_spells 28 = .ok (.aload_n 0, 1) := by decide +kernel
theorem dX5_spells_29 : decode cX5_spells 29 = .ok (.getfield 11, 3) := by decide +kernel
theorem dX5_spells_32 : decode cX5_spells 32 = .ok (.aload_n 0, 1) := by decide +kernel
theorem dX5_spells_33 : decode cX5_spells 33 = .ok (.getfield 52, 3) := by decide +kernel
theorem dX5_spells_36 : decode cX5_spells 36 = .ok (.iload_n 2, 1) := by decide +kernel
theorem dX5_spells_37 : decode cX5_spells 37 = .ok (.iadd, 1) := by decide +kernel
theorem dX5_spells_38 : decode cX5_spells 38 = .ok (.baload, 1) := by decide +kernel
theorem dX5_spells_39 : decode cX5_spells 39 = .ok (.aload_n 1, 1) := by decide +kernel
theorem dX5_spells_40 : decode cX5_spells 40 = .ok (.iload_n 2, 1) := by decide +kernel
theorem dX5_spells_41 : decode cX5_spells 41 = .ok (.invokevirtual 118, 3) := by decide +kernel
theorem dX5_spells_44 : decode cX5_spells 44 = .ok (.if_icmp .eq 5, 3) := by decide +kernel
theorem dX5_spells_47 : decode cX5_spells 47 = .ok (.iconst 0, 1) := by decide +kernel
theorem dX5_spells_48 : decode cX5_spells 48 = .ok (.ireturn, 1) := by decide +kernel
theorem dX5_spells_49 : decode cX5_spells 49 = .ok (.iinc 2 1, 3) := by decide +kernel
theorem dX5_spells_52 : decode cX5_spells 52 = .ok (.goto (-32), 3) := by decide +kernel
theorem dX5_spells_55 : decode cX5_spells 55 = .ok (.iconst 1, 1) := by decide +kernel
theorem dX5_spells_56 : decode cX5_spells 56 = .ok (.ireturn, 1) := by decide +kernel
theorem dX5_takeNumber_0 : decode cX5_takeNumber 0 = .ok (.aload_n 0, 1) := by decide +kernel
theorem dX5_takeNumber_1 : decode cX5_takeNumber 1 = .ok (.iconst 0, 1) := by decide +kernel
theorem dX5_takeNumber_2 : decode cX5_takeNumber 2 = .ok (.putfield 68, 3) := by decide +kernel
theorem dX5_takeNumber_5 : decode cX5_takeNumber 5 = .ok (.aload_n 0, 1) := by decide +kernel
theorem dX5_takeNumber_6 : decode cX5_takeNumber 6 = .ok (.getfield 26, 3) := by decide +kernel
theorem dX5_takeNumber_9 : decode cX5_takeNumber 9 = .ok (.aload_n 0, 1) := by decide +kernel
theorem dX5_takeNumber_10 : decode cX5_takeNumber 10 = .ok (.getfield 19, 3) := by decide +kernel
theorem dX5_takeNumber_13 : decode cX5_takeNumber 13 = .ok (.if_icmp .ge 55, 3) := by decide +kernel
theorem dX5_takeNumber_16 : decode cX5_takeNumber 16 = .ok (.aload_n 0, 1) := by decide +kernel
theorem dX5_takeNumber_17 : decode cX5_takeNumber 17 = .ok (.getfield 11, 3) := by decide +kernel
theorem dX5_takeNumber_20 : decode cX5_takeNumber 20 = .ok (.aload_n 0, 1) := by decide +kernel
theorem dX5_takeNumber_21 : decode cX5_takeNumber 21 = .ok (.getfield 26, 3) := by decide +kernel
theorem dX5_takeNumber_24 : decode cX5_takeNumber 24 = .ok (.baload, 1) := by decide +kernel
theorem dX5_takeNumber_25 : decode cX5_takeNumber 25 = .ok (.invokestatic 78, 3) := by decide +kernel
theorem dX5_takeNumber_28 : decode cX5_takeNumber 28 = .ok (.ifCond .eq 40, 3) := by decide +kernel
theorem dX5_takeNumber_31 : decode cX5_takeNumber 31 = .ok (.aload_n 0, 1) := by decide +kernel
theorem dX5_takeNumber_32 : decode cX5_takeNumber 32 = .ok (.aload_n 0, 1) := by decide +kernel
theorem dX5_takeNumber_33 : decode cX5_takeNumber 33 = .ok (.getfield 68, 3) := by decide +kernel
theorem dX5_takeNumber_36 : decode cX5_takeNumber 36 = .ok (.bipush 10, 2) := by decide +kernel
theorem dX5_takeNumber_38 : decode cX5_takeNumber 38 = .ok (.imul, 1) := by decide +kernel
theorem dX5_takeNumber_39 : decode cX5_takeNumber 39 = .ok (.aload_n 0, 1) := by decide +kernel
theorem dX5_takeNumber_40 : decode cX5_takeNumber 40 = .ok (.getfield 11, 3) := by decide +kernel
theorem dX5_takeNumber_43 : decode cX5_takeNumber 43 = .ok (.aload_n 0, 1) := by decide +kernel
theorem dX5_takeNumber_44 : decode cX5_takeNumber 44 = .ok (.getfield 26, 3) := by decide +kernel
theorem dX5_takeNumber_47 : decode cX5_takeNumber 47 = .ok (.baload, 1) := by decide +kernel
theorem dX5_takeNumber_48 : decode cX5_takeNumber 48 = .ok (.iadd, 1) := by decide +kernel
theorem dX5_takeNumber_49 : decode cX5_takeNumber 49 = .ok (.bipush 48, 2) := by decide +kernel
theorem dX5_takeNumber_51 : decode cX5_takeNumber 51 = .ok (.isub, 1) := by decide +kernel
theorem dX5_takeNumber_52 : decode cX5_takeNumber 52 = .ok (.putfield 68, 3) := by decide +kernel
theorem dX5_takeNumber_55 : decode cX5_takeNumber 55 = .ok (.aload_n 0, 1) := by decide +kernel
theorem dX5_takeNumber_56 : decode cX5_takeNumber 56 = .ok (.dup, 1) := by decide +kernel
theorem dX5_takeNumber_57 : decode cX5_takeNumber 57 = .ok (.getfield 26, 3) := by decide +kernel
theorem dX5_takeNumber_60 : decode cX5_takeNumber 60 = .ok (.iconst 1, 1) := by decide +kernel
theorem dX5_takeNumber_61 : decode cX5_takeNumber 61 = .ok (.iadd, 1) := by decide +kernel
theorem dX5_takeNumber_62 : decode cX5_takeNumber 62 = .ok (.putfield 26, 3) := by decide +kernel
theorem dX5_takeNumber_65 : decode cX5_takeNumber 65 = .ok (.goto (-60), 3) := by decide +kernel
theorem dX5_takeNumber_68 : decode cX5_takeNumber 68 = .ok (.aload_n 0, 1) := by decide +kernel
theorem dX5_takeNumber_69 : decode cX5_takeNumber 69 = .ok (.aload_n 0, 1) := by decide +kernel
theorem dX5_takeNumber_70 : decode cX5_takeNumber 70 = .ok (.getfield 26, 3) := by decide +kernel
theorem dX5_takeNumber_73 : decode cX5_takeNumber 73 = .ok (.aload_n 0, 1) := by decide +kernel
theorem dX5_takeNumber_74 : decode cX5_takeNumber 74 = .ok (.getfield 52, 3) := by decide +kernel
theorem dX5_takeNumber_77 : decode cX5_takeNumber 77 = .ok (.isub, 1) := by decide +kernel
theorem dX5_takeNumber_78 : decode cX5_takeNumber 78 = .ok (.iconst 4, 1) := by decide +kernel
theorem dX5_takeNumber_79 : decode cX5_takeNumber 79 = .ok (.if_icmp .le 8, 3) := by decide +kernel
theorem dX5_takeNumber_82 : decode cX5_takeNumber 82 = .ok (.bipush 10, 2) := by decide +kernel
theorem dX5_takeNumber_84 : decode cX5_takeNumber 84 = .ok (.goto 5, 3) := by decide +kernel
theorem dX5_takeNumber_87 : decode cX5_takeNumber 87 = .ok (.bipush 12, 2) := by decide +kernel
theorem dX5_takeNumber_89 : decode cX5_takeNumber 89 = .ok (.putfield 46, 3) := by decide +kernel
theorem dX5_takeNumber_92 : decode cX5_takeNumber 92 = .ok (.return_, 1) := by decide +kernel
theorem dX5_isLetter_0 : decode cX5_isLetter 0 = .ok (.iload_n 0, 1) := by decide +kernel
theorem dX5_isLetter_1 : decode cX5_isLetter 1 = .ok (.bipush 97, 2) := by decide +kernel
theorem dX5_isLetter_3 : decode cX5_isLetter 3 = .ok (.if_icmp .lt 13, 3) := by decide +kernel
theorem dX5_isLetter_6 : decode cX5_isLetter 6 = .ok (.iload_n 0, 1) := by decide +kernel
theorem dX5_isLetter_7 : decode cX5_isLetter 7 = .ok (.bipush 122, 2) := by decide +kernel
theorem dX5_isLetter_9 : decode cX5_isLetter 9 = .ok (.if_icmp .gt 7, 3) := by decide +kernel
theorem dX5_isLetter_12 : decode cX5_isLetter 12 = .ok (.iconst 1, 1) := by decide +kernel
theorem dX5_isLetter_13 : decode cX5_isLetter 13 = .ok (.goto 4, 3) := by decide +kernel
theorem dX5_isLetter_16 : decode cX5_isLetter 16 = .ok (.iconst 0, 1) := by decide +kernel
theorem dX5_isLetter_17 : decode cX5_isLetter 17 = .ok (.ireturn, 1) := by decide +kernel
theorem dX5_isDigit_0 : decode cX5_isDigit 0 = .ok (.iload_n 0, 1) := by decide +kernel
theorem dX5_isDigit_1 : decode cX5_isDigit 1 = .ok (.bipush 48, 2) := by decide +kernel
theorem dX5_isDigit_3 : decode cX5_isDigit 3 = .ok (.if_icmp .lt 13, 3) := by decide +kernel
theorem dX5_isDigit_6 : decode cX5_isDigit 6 = .ok (.iload_n 0, 1) := by decide +kernel
theorem dX5_isDigit_7 : decode cX5_isDigit 7 = .ok (.bipush 57, 2) := by decide +kernel
theorem dX5_isDigit_9 : decode cX5_isDigit 9 = .ok (.if_icmp .gt 7, 3) := by decide +kernel
theorem dX5_isDigit_12 : decode cX5_isDigit 12 = .ok (.iconst 1, 1) := by decide +kernel
theorem dX5_isDigit_13 : decode cX5_isDigit 13 = .ok (.goto 4, 3) := by decide +kernel
theorem dX5_isDigit_16 : decode cX5_isDigit 16 = .ok (.iconst 0, 1) := by decide +kernel
theorem dX5_isDigit_17 : decode cX5_isDigit 17 = .ok (.ireturn, 1) := by decide +kernel
theorem dX5_isSign_0 : decode cX5_isSign 0 = .ok (.iload_n 0, 1) := by decide +kernel
theorem dX5_isSign_1 : decode cX5_isSign 1 = .ok (.bipush 40, 2) := by decide +kernel
theorem dX5_isSign_3 : decode cX5_isSign 3 = .ok (.if_icmp .lt 9, 3) := by decide +kernel
theorem dX5_isSign_6 : decode cX5_isSign 6 = .ok (.iload_n 0, 1) := by decide +kernel
theorem dX5_isSign_7 : decode cX5_isSign 7 = .ok (.bipush 43, 2) := by decide +kernel
theorem dX5_isSign_9 : decode cX5_isSign 9 = .ok (.if_icmp .le 27, 3) := by decide +kernel
theorem dX5_isSign_12 : decode cX5_isSign 12 = .ok (.iload_n 0, 1) := by decide +kernel
theorem dX5_isSign_13 : decode cX5_isSign 13 = .ok (.bipush 45, 2) := by decide +kernel
theorem dX5_isSign_15 : decode cX5_isSign 15 = .ok (.if_icmp .eq 21, 3) := by decide +kernel
theorem dX5_isSign_18 : decode cX5_isSign 18 = .ok (.iload_n 0, 1) := by decide +kernel
theorem dX5_isSign_19 : decode cX5_isSign 19 = .ok (.bipush 59, 2) := by decide +kernel
theorem dX5_isSign_21 : decode cX5_isSign 21 = .ok (.if_icmp .eq 15, 3) := by decide +kernel
theorem dX5_isSign_24 : decode cX5_isSign 24 = .ok (.iload_n 0, 1) := by decide +kernel
theorem dX5_isSign_25 : decode cX5_isSign 25 = .ok (.bipush 60, 2) := by decide +kernel
theorem dX5_isSign_27 : decode cX5_isSign 27 = .ok (.if_icmp .eq 9, 3) := by decide +kernel
theorem dX5_isSign_30 : decode cX5_isSign 30 = .ok (.iload_n 0, 1) := by decide +kernel
theorem dX5_isSign_31 : decode cX5_isSign 31 = .ok (.bipush 61, 2) := by decide +kernel
theorem dX5_isSign_33 : decode cX5_isSign 33 = .ok (.if_icmp .ne 7, 3) := by decide +kernel
theorem dX5_isSign_36 : decode cX5_isSign 36 = .ok (.iconst 1, 1) := by decide +kernel
theorem dX5_isSign_37 : decode cX5_isSign 37 = .ok (.goto 4, 3) := by decide +kernel
theorem dX5_isSign_40 : decode cX5_isSign 40 = .ok (.iconst 0, 1) := by decide +kernel
theorem dX5_isSign_41 : decode cX5_isSign 41 = .ok (.ireturn, 1) := by decide +kernel
theorem dX6_init_0 : decode cX6_init 0 = .ok (.aload_n 0, 1) := by decide +kernel
theorem dX6_init_1 : decode cX6_init 1 = .ok (.invokespecial 3, 3) := by decide +kernel
theorem dX6_init_4 : decode cX6_init 4 = .ok (.aload_n 0, 1) := by decide +kernel
theorem dX6_init_5 : decode cX6_init 5 = .ok (.bipush 14, 2) := by decide +kernel
theorem dX6_init_7 : decode cX6_init 7 = .ok (.newarray .int, 2) := by decide +kernel
theorem dX6_init_9 : decode cX6_init 9 = .ok (.putfield 9, 3) := by decide +kernel
theorem dX6_init_12 : decode cX6_init 12 = .ok (.aload_n 0, 1) := by decide +kernel
theorem dX6_init_13 : decode cX6_init 13 = .ok (.bipush 14, 2) := by decide +kernel
theorem dX6_init_15 : decode cX6_init 15 = .ok (.newarray .int, 2) := by decide +kernel
theorem dX6_init_17 : decode cX6_init 17 = .ok (.putfield 15, 3) := by decide +kernel
theorem dX6_init_20 : decode cX6_init 20 = .ok (.aload_n 0, 1) := by decide +kernel
theorem dX6_init_21 : decode cX6_init 21 = .ok (.bipush 14, 2) := by decide +kernel
theorem dX6_init_23 : decode cX6_init 23 = .ok (.newarray .int, 2) := by decide +kernel
theorem dX6_init_25 : decode cX6_init 25 = .ok (.putfield 18, 3) := by decide +kernel
theorem dX6_init_28 : decode cX6_init 28 = .ok (.aload_n 0, 1) := by decide +kernel
theorem dX6_init_29 : decode cX6_init 29 = .ok (.bipush 14, 2) := by decide +kernel
theorem dX6_init_31 : decode cX6_init 31 = .ok (.newarray .int, 2) := by decide +kernel
theorem dX6_init_33 : decode cX6_init 33 = .ok (.putfield 21, 3) := by decide +kernel
theorem dX6_init_36 : decode cX6_init 36 = .ok (.aload_n 0, 1) := by decide +kernel
theorem dX6_init_37 : decode cX6_init 37 = .ok (.bipush 14, 2) := by decide +kernel
theorem dX6_init_39 : decode cX6_init 39 = .ok (.newarray .int, 2) := by decide +kernel
theorem dX6_init_41 : decode cX6_init 41 = .ok (.putfield 24, 3) := by decide +kernel
theorem dX6_init_44 : decode cX6_init 44 = .ok (.return_, 1) := by decide +kernel
theorem dX6_build_0 : decode cX6_build 0 = .ok (.aload_n 0, 1) := by decide +kernel
theorem dX6_build_1 : decode cX6_build 1 = .ok (.dup, 1) := by decide +kernel
theorem dX6_build_2 : decode cX6_build 2 = .ok (.getfield 27, 3) := by decide +kernel
theorem dX6_build_5 : decode cX6_build 5 = .ok (.dup_x1, 1) := by decide +kernel
theorem dX6_build_6 : decode cX6_build 6 = .ok (.iconst 1, 1) := by decide +kernel
theorem dX6_build_7 : decode cX6_build 7 = .ok (.iadd, 1) := by decide +kernel
theorem dX6_build_8 : decode cX6_build 8 = .ok (.putfield 27, 3) := by decide +kernel
theorem dX6_build_11 : decode cX6_build 11 = .ok (.istore 5, 2) := by decide +kernel
theorem dX6_build_13 : decode cX6_build 13 = .ok (.aload_n 0, 1) := by decide +kernel
theorem dX6_build_14 : decode cX6_build 14 = .ok (.getfield 9, 3) := by decide +kernel
theorem dX6_build_17 : decode cX6_build 17 = .ok (.iload 5, 2) := by decide +kernel
theorem dX6_build_19 : decode cX6_build 19 = .ok (.iload_n 1, 1) := by decide +kernel
theorem dX6_build_20 : decode cX6_build 20 = .ok (.iastore, 1) := by decide +kernel
theorem dX6_build_21 : decode cX6_build 21 = .ok (.aload_n 0, 1) := by decide +kernel
theorem dX6_build_22 : decode cX6_build 22 = .ok (.getfield 15, 3) := by decide +kernel
theorem dX6_build_25 : decode cX6_build 25 = .ok (.iload 5, 2) := by decide +kernel
theorem dX6_build_27 : decode cX6_build 27 = .ok (.iload_n 2, 1) := by decide +kernel
theorem dX6_build_28 : decode cX6_build 28 = .ok (.iastore, 1) := by decide +kernel
theorem dX6_build_29 : decode cX6_build 29 = .ok (.aload_n 0, 1) := by decide +kernel
theorem dX6_build_30 : decode cX6_build 30 = .ok (.getfield 18, 3) := by decide +kernel
theorem dX6_build_33 : decode cX6_build 33 = .ok (.iload 5, 2) := by decide +kernel
theorem dX6_build_35 : decode cX6_build 35 = .ok (.iload_n 3, 1) := by decide +kernel
theorem dX6_build_36 : decode cX6_build 36 = .ok (.iastore, 1) := by decide +kernel
theorem dX6_build_37 : decode cX6_build 37 = .ok (.aload_n 0, 1) := by decide +kernel
theorem dX6_build_38 : decode cX6_build 38 = .ok (.getfield 21, 3) := by decide +kernel
theorem dX6_build_41 : decode cX6_build 41 = .ok (.iload 5, 2) := by decide +kernel
theorem dX6_build_43 : decode cX6_build 43 = .ok (.iload 4, 2) := by decide +kernel
theorem dX6_build_45 : decode cX6_build 45 = .ok (.iastore, 1) := by decide +kernel
theorem dX6_build_46 : decode cX6_build 46 = .ok (.aload_n 0, 1) := by decide +kernel
theorem dX6_build_47 : decode cX6_build 47 = .ok (.getfield 24, 3) := by decide +kernel
theorem dX6_build_50 : decode cX6_build 50 = .ok (.iload 5, 2) := by decide +kernel
theorem dX6_build_52 : decode cX6_build 52 = .ok (.iconst (-1), 1) := by decide +kernel
theorem dX6_build_53 : decode cX6_build 53 = .ok (.iastore, 1) := by decide +kernel
theorem dX6_build_54 : decode cX6_build 54 = .ok (.iload 5, 2) := by decide +kernel
theorem dX6_build_56 : decode cX6_build 56 = .ok (.ireturn, 1) := by decide +kernel
theorem dX6_isOfKind_0 : decode cX6_isOfKind 0 = .ok (.aload_n 0, 1) := by decide +kernel
theorem dX6_isOfKind_1 : decode cX6_isOfKind 1 = .ok (.getfield 9, 3) := by decide +kernel
theorem dX6_isOfKind_4 : decode cX6_isOfKind 4 = .ok (.iload_n 1, 1) := by decide +kernel
theorem dX6_isOfKind_5 : decode cX6_isOfKind 5 = .ok (.iaload, 1) := by decide +kernel
theorem dX6_isOfKind_6 : decode cX6_isOfKind 6 = .ok (.istore_n 3, 1) := by decide +kernel
theorem dX6_isOfKind_7 : decode cX6_isOfKind 7 = .ok (.iconst 0, 1) := by decide +kernel
theorem dX6_isOfKind_8 : decode cX6_isOfKind 8 = .ok (.istore 4, 2) := by decide +kernel
theorem dX6_isOfKind_10 : decode cX6_isOfKind 10 = .ok (.iload 4, 2) := by decide +kernel
theorem dX6_isOfKind_12 : decode cX6_isOfKind 12 = .ok (.bipush 6, 2) := by decide +kernel
theorem dX6_isOfKind_14 : decode cX6_isOfKind 14 = .ok (.if_icmp .ge 27, 3) := by decide +kernel
theorem dX6_isOfKind_17 : decode cX6_isOfKind 17 = .ok (.iload_n 3, 1) := by decide +kernel
theorem dX6_isOfKind_18 : decode cX6_isOfKind 18 = .ok (.iconst (-1), 1) := by decide +kernel
theorem dX6_isOfKind_19 : decode cX6_isOfKind 19 = .ok (.if_icmp .eq 22, 3) := by decide +kernel
theorem dX6_isOfKind_22 : decode cX6_isOfKind 22 = .ok (.iload_n 3, 1) := by decide +kernel
theorem dX6_isOfKind_23 : decode cX6_isOfKind 23 = .ok (.iload_n 2, 1) := by decide +kernel
theorem dX6_isOfKind_24 : decode cX6_isOfKind 24 = .ok (.if_icmp .ne 5, 3) := by decide +kernel
theorem dX6_isOfKind_27 : decode cX6_isOfKind 27 = .ok (.iconst 1, 1) := by decide +kernel
theorem dX6_isOfKind_28 : decode cX6_isOfKind 28 = .ok (.ireturn, 1) := by decide +kernel
theorem dX6_isOfKind_29 : decode cX6_isOfKind 29 = .ok (.getstatic 31, 3) := by decide +kernel
theorem dX6_isOfKind_32 : decode cX6_isOfKind 32 = .ok (.iload_n 3, 1) := by decide +kernel
theorem dX6_isOfKind_33 : decode cX6_isOfKind 33 = .ok (.iaload, 1) := by decide +kernel
theorem dX6_isOfKind_34 : decode cX6_isOfKind 34 = .ok (.istore_n 3, 1) := by decide +kernel
theorem dX6_isOfKind_35 : decode cX6_isOfKind 35 = .ok (.iinc 4 1, 3) := by decide +kernel
theorem dX6_isOfKind_38 : decode cX6_isOfKind 38 = .ok (.goto (-28), 3) := by decide +kernel
theorem dX6_isOfKind_41 : decode cX6_isOfKind 41 = .ok (.iconst 0, 1) := by decide +kernel
theorem dX6_isOfKind_42 : decode cX6_isOfKind 42 = .ok (.ireturn, 1) := by decide +kernel
theorem dX6_canTake_0 : decode cX6_canTake 0 = .ok (.aload_n 0, 1) := by decide +kernel
theorem dX6_canTake_1 : decode cX6_canTake 1 = .ok (.getfield 24, 3) := by decide +kernel
theorem dX6_canTake_4 : decode cX6_canTake 4 = .ok (.iload_n 1, 1) := by decide +kernel
theorem dX6_canTake_5 : decode cX6_canTake 5 = .ok (.iaload, 1) := by decide +kernel
theorem dX6_canTake_6 : decode cX6_canTake 6 = .ok (.iconst (-1), 1) := by decide +kernel
theorem dX6_canTake_7 : decode cX6_canTake 7 = .ok (.if_icmp .eq 7, 3) := by decide +kernel
theorem dX6_canTake_10 : decode cX6_canTake 10 = .ok (.iconst 1, 1) := by decide +kernel
theorem dX6_canTake_11 : decode cX6_canTake 11 = .ok (.goto 4, 3) := by decide +kernel
theorem dX6_canTake_14 : decode cX6_canTake 14 = .ok (.iconst 0, 1) := by decide +kernel
theorem dX6_canTake_15 : decode cX6_canTake 15 = .ok (.istore 4, 2) := by decide +kernel
theorem dX6_canTake_17 : decode cX6_canTake 17 = .ok (.aload_n 0, 1) := by decide +kernel
theorem dX6_canTake_18 : decode cX6_canTake 18 = .ok (.getfield 9, 3) := by decide +kernel
theorem dX6_canTake_21 : decode cX6_canTake 21 = .ok (.iload_n 1, 1) := by decide +kernel
theorem dX6_canTake_22 : decode cX6_canTake 22 = .ok (.iaload, 1) := by decide +kernel
theorem dX6_canTake_23 : decode cX6_canTake 23 = .ok (.iconst 3, 1) := by decide +kernel
theorem dX6_canTake_24 : decode cX6_canTake 24 = .ok (.if_icmp .ne 7, 3) := by decide +kernel
theorem dX6_canTake_27 : decode cX6_canTake 27 = .ok (.iconst 2, 1) := by decide +kernel
theorem dX6_canTake_28 : decode cX6_canTake 28 = .ok (.goto 4, 3) := by decide +kernel
theorem dX6_canTake_31 : decode cX6_canTake 31 = .ok (.iconst 1, 1) := by decide +kernel
theorem dX6_canTake_32 : decode cX6_canTake 32 = .ok (.istore 5, 2) := by decide +kernel
theorem dX6_canTake_34 : decode cX6_canTake 34 = .ok (.iload 4, 2) := by decide +kernel
theorem dX6_canTake_36 : decode cX6_canTake 36 = .ok (.ifCond .eq 18, 3) := by decide +kernel
theorem dX6_canTake_39 : decode cX6_canTake 39 = .ok (.iload_n 2, 1) := by decide +kernel
theorem dX6_canTake_40 : decode cX6_canTake 40 = .ok (.aload_n 0, 1) := by decide +kernel
theorem dX6_canTake_41 : decode cX6_canTake 41 = .ok (.getfield 24, 3) := by decide +kernel
theorem dX6_canTake_44 : decode cX6_canTake 44 = .ok (.iload_n 1, 1) := by decide +kernel
theorem dX6_canTake_45 : decode cX6_canTake 45 = .ok (.iaload, 1) := by decide +kernel
theorem dX6_canTake_46 : decode cX6_canTake 46 = .ok (.iload 5, 2) := by decide +kernel
theorem dX6_canTake_48 : decode cX6_canTake 48 = .ok (.iadd, 1) := by decide +kernel
theorem dX6_canTake_49 : decode cX6_canTake 49 = .ok (.if_icmp .ge 5, 3) := by decide +kernel
theorem dX6_canTake_52 : decode cX6_canTake 52 = .ok (.iconst 0, 1) := by decide +kernel
theorem dX6_canTake_53 : decode cX6_canTake 53 = .ok (.ireturn, 1) := by decide +kernel
theorem dX6_canTake_54 : decode cX6_canTake 54 = .ok (.aload_n 0, 1) := by decide +kernel
theorem dX6_canTake_55 : decode cX6_canTake 55 = .ok (.getfield 21, 3) := by decide +kernel
theorem dX6_canTake_58 : decode cX6_canTake 58 = .ok (.iload_n 1, 1) := by decide +kernel
theorem dX6_canTake_59 : decode cX6_canTake 59 = .ok (.iaload, 1) := by decide +kernel
theorem dX6_canTake_60 : decode cX6_canTake 60 = .ok (.istore 6, 2) := by decide +kernel
theorem dX6_canTake_62 : decode cX6_canTake 62 = .ok (.aload_n 0, 1) := by decide +kernel
theorem dX6_canTake_63 : decode cX6_canTake 63 = .ok (.getfield 9, 3) := by decide +kernel
theorem dX6_canTake_66 : decode cX6_canTake 66 = .ok (.iload_n 1, 1) := by decide +kernel
theorem dX6_canTake_67 : decode cX6_canTake 67 = .ok (.iaload, 1) := by decide +kernel
theorem dX6_canTake_68 : decode cX6_canTake 68 = .ok (.tableswitch 95 1 5 #[36, 51, 36, 64, 90], 36) := by decide +kernel
theorem dX6_canTake_104 : decode cX6_canTake 104 = .ok (.iload 4, 2) := by decide +kernel
theorem dX6_canTake_106 : decode cX6_canTake 106 = .ok (.ifCond .eq 10, 3) := by decide +kernel
theorem dX6_canTake_109 : decode cX6_canTake 109 = .ok (.iload 6, 2) := by decide +kernel
theorem dX6_canTake_111 : decode cX6_canTake 111 = .ok (.iconst 2, 1) := by decide +kernel
theorem dX6_canTake_112 : decode cX6_canTake 112 = .ok (.imul, 1) := by decide +kernel
theorem dX6_canTake_113 : decode cX6_canTake 113 = .ok (.goto 5, 3) := by decide +kernel
theorem dX6_canTake_116 : decode cX6_canTake 116 = .ok (.iload 6, 2) := by decide +kernel
theorem dX6_canTake_118 : decode cX6_canTake 118 = .ok (.ireturn, 1) := by decide +kernel
theorem dX6_canTake_119 : decode cX6_canTake 119 = .ok (.iload_n 3, 1) := by decide +kernel
theorem dX6_canTake_120 : decode cX6_canTake 120 = .ok (.bipush 40, 2) := by decide +kernel
theorem dX6_canTake_122 : decode cX6_canTake 122 = .ok (.if_icmp .le 7, 3) := by decide +kernel
theorem dX6_canTake_125 : decode cX6_canTake 125 = .ok (.iconst 0, 1) := by decide +kernel
theorem dX6_canTake_126 : decode cX6_canTake 126 = .ok (.goto 5, 3) := by decide +kernel
theorem dX6_canTake_129 : decode cX6_canTake 129 = .ok (.iload 6, 2) := by decide +kernel
theorem dX6_canTake_131 : decode cX6_canTake 131 = .ok (.ireturn, 1) := by decide +kernel
theorem dX6_canTake_132 : decode cX6_canTake 132 = .ok (.iload_n 3, 1) := by decide +kernel
theorem dX6_canTake_133 : decode cX6_canTake 133 = .ok (.bipush 40, 2) := by decide +kernel
theorem dX6_canTake_135 : decode cX6_canTake 135 = .ok (.if_icmp .le 7, 3) := by decide +kernel
theorem dX6_canTake_138 : decode cX6_canTake 138 = .ok (.iconst 0, 1) := by decide +kernel
theorem dX6_canTake_139 : decode cX6_canTake 139 = .ok (.goto 18, 3) := by decide +kernel
theorem dX6_canTake_142 : decode cX6_canTake 142 = .ok (.iload_n 3, 1) := by decide +kernel
theorem dX6_canTake_143 : decode cX6_canTake 143 = .ok (.bipush 20, 2) := by decide +kernel
theorem dX6_canTake_145 : decode cX6_canTake 145 = .ok (.if_icmp .le 10, 3) := by decide +kernel
theorem dX6_canTake_148 : decode cX6_canTake 148 = .ok (.iload 6, 2) := by decide +kernel
theorem dX6_canTake_150 : decode cX6_canTake 150 = .ok (.iconst 2, 1) := by decide +kernel
theorem dX6_canTake_151 : decode cX6_canTake 151 = .ok (.idiv, 1) := by decide +kernel
theorem dX6_canTake_152 : decode cX6_canTake 152 = .ok (.goto 5, 3) := by decide +kernel
theorem dX6_canTake_155 : decode cX6_canTake 155 = .ok (.iload 6, 2) := by decide +kernel
theorem dX6_canTake_157 : decode cX6_canTake 157 = .ok (.ireturn, 1) := by decide +kernel
theorem dX6_canTake_158 : decode cX6_canTake 158 = .ok (.iload 6, 2) := by decide +kernel
theorem dX6_canTake_160 : decode cX6_canTake 160 = .ok (.iconst 3, 1) := by decide +kernel
theorem dX6_canTake_161 : decode cX6_canTake 161 = .ok (.idiv, 1) := by decide +kernel
theorem dX6_canTake_162 : decode cX6_canTake 162 = .ok (.ireturn, 1) := by decide +kernel
theorem dX6_canTake_163 : decode cX6_canTake 163 = .ok (.iload 6, 2) := by decide +kernel
theorem dX6_canTake_165 : decode cX6_canTake 165 = .ok (.ireturn, 1) := by decide +kernel
theorem dX7_init_0 : decode cX7_init 0 = .ok (.aload_n 0, 1) := by decide +kernel
theorem dX7_init_1 : decode cX7_init 1 = .ok (.invokespecial 3, 3) := by decide +kernel
theorem dX7_init_4 : decode cX7_init 4 = .ok (.aload_n 0, 1) := by decide +kernel
theorem dX7_init_5 : decode cX7_init 5 = .ok (.iconst 4, 1) := by decide +kernel
theorem dX7_init_6 : decode cX7_init 6 = .ok (.bipush 40, 2) := by decide +kernel
theorem dX7_init_8 : decode cX7_init 8 = .ok (.multianewarray 9 2, 4) := by decide +kernel
theorem dX7_init_12 : decode cX7_init 12 = .ok (.putfield 11, 3) := by decide +kernel
theorem dX7_init_15 : decode cX7_init 15 = .ok (.aload_n 0, 1) := by decide +kernel
theorem dX7_init_16 : decode cX7_init 16 = .ok (.iconst 4, 1) := by decide +kernel
theorem dX7_init_17 : decode cX7_init 17 = .ok (.newarray .int, 2) := by decide +kernel
theorem dX7_init_19 : decode cX7_init 19 = .ok (.putfield 16, 3) := by decide +kernel
theorem dX7_init_22 : decode cX7_init 22 = .ok (.aload_n 0, 1) := by decide +kernel
theorem dX7_init_23 : decode cX7_init 23 = .ok (.iconst 4, 1) := by decide +kernel
theorem dX7_init_24 : decode cX7_init 24 = .ok (.newarray .int, 2) := by decide +kernel
theorem dX7_init_26 : decode cX7_init 26 = .ok (.putfield 20, 3) := by decide +kernel
theorem dX7_init_29 : decode cX7_init 29 = .ok (.aload_n 0, 1) := by decide +kernel
theorem dX7_init_30 : decode cX7_init 30 = .ok (.getfield 16, 3) := by decide +kernel
theorem dX7_init_33 : decode cX7_init 33 = .ok (.iconst (-1), 1) := by decide +kernel
theorem dX7_init_34 : decode cX7_init 34 = .ok (.invokestatic 23, 3) := by decide +kernel
theorem dX7_init_37 : decode cX7_init 37 = .ok (.return_, 1) := by decide +kernel
theorem dX7_lay_0 : decode cX7_lay 0 = .ok (.aload_n 0, 1) := by decide +kernel
theorem dX7_lay_1 : decode cX7_lay 1 = .ok (.getfield 16, 3) := by decide +kernel
theorem dX7_lay_4 : decode cX7_lay 4 = .ok (.iload_n 1, 1) := by decide +kernel
theorem dX7_lay_5 : decode cX7_lay 5 = .ok (.iload_n 2, 1) := by decide +kernel
theorem dX7_lay_6 : decode cX7_lay 6 = .ok (.iastore, 1) := by decide +kernel
theorem dX7_lay_7 : decode cX7_lay 7 = .ok (.aload_n 0, 1) := by decide +kernel
theorem dX7_lay_8 : decode cX7_lay 8 = .ok (.getfield 20, 3) := by decide +kernel
theorem dX7_lay_11 : decode cX7_lay 11 = .ok (.iload_n 1, 1) := by decide +kernel
theorem dX7_lay_12 : decode cX7_lay 12 = .ok (.iload_n 3, 1) := by decide +kernel
theorem dX7_lay_13 : decode cX7_lay 13 = .ok (.iastore, 1) := by decide +kernel
theorem dX7_lay_14 : decode cX7_lay 14 = .ok (.aload_n 0, 1) := by decide +kernel
theorem dX7_lay_15 : decode cX7_lay 15 = .ok (.getfield 11, 3) := by decide +kernel
theorem dX7_lay_18 : decode cX7_lay 18 = .ok (.iload_n 1, 1) := by decide +kernel
theorem dX7_lay_19 : decode cX7_lay 19 = .ok (.aaload, 1) := by decide +kernel
theorem dX7_lay_20 : decode cX7_lay 20 = .ok (.iconst 0, 1) := by decide +kernel
theorem dX7_lay_21 : decode cX7_lay 21 = .ok (.invokestatic 23, 3) := by decide +kernel
theorem dX7_lay_24 : decode cX7_lay 24 = .ok (.return_, 1) := by decide +kernel
theorem dX7_write_0 : decode cX7_write 0 = .ok (.aload_n 0, 1) := by decide +kernel
theorem dX7_write_1 : decode cX7_write 1 = .ok (.getfield 11, 3) := by decide +kernel
theorem dX7_write_4 : decode cX7_write 4 = .ok (.iload_n 1, 1) := by decide +kernel
theorem dX7_write_5 : decode cX7_write 5 = .ok (.aaload, 1) := by decide +kernel
theorem dX7_write_6 : decode cX7_write 6 = .ok (.iload_n 2, 1) := by decide +kernel
theorem dX7_write_7 : decode cX7_write 7 = .ok (.aload_n 0, 1) := by decide +kernel
theorem dX7_write_8 : decode cX7_write 8 = .ok (.getfield 16, 3) := by decide +kernel
theorem dX7_write_11 : decode cX7_write 11 = .ok (.iload_n 1, 1) := by decide +kernel
theorem dX7_write_12 : decode cX7_write 12 = .ok (.iaload, 1) := by decide +kernel
theorem dX7_write_13 : decode cX7_write 13 = .ok (.ifCond .ne 8, 3) := by decide +kernel
theorem dX7_write_16 : decode cX7_write 16 = .ok (.iload_n 3, 1) := by decide +kernel
theorem dX7_write_17 : decode cX7_write 17 = .ok (.i2b, 1) := by decide +kernel
theorem dX7_write_18 : decode cX7_write 18 = .ok (.goto 19, 3) := by decide +kernel
theorem dX7_write_21 : decode cX7_write 21 = .ok (.aload_n 0, 1) := by decide +kernel
theorem dX7_write_22 : decode cX7_write 22 = .ok (.getfield 16, 3) := by decide +kernel
theorem dX7_write_25 : decode cX7_write 25 = .ok (.iload_n 1, 1) := by decide +kernel
theorem dX7_write_26 : decode cX7_write 26 = .ok (.iaload, 1) := by decide +kernel
theorem dX7_write_27 : decode cX7_write 27 = .ok (.iconst 1, 1) := by decide +kernel
theorem dX7_write_28 : decode cX7_write 28 = .ok (.if_icmp .ne 8, 3) := by decide +kernel
theorem dX7_write_31 : decode cX7_write 31 = .ok (.iload_n 3, 1) := by decide +kernel
theorem dX7_write_32 : decode cX7_write 32 = .ok (.i2s, 1) := by decide +kernel
theorem dX7_write_33 : decode cX7_write 33 = .ok (.goto 4, 3) := by decide +kernel
theorem dX7_write_36 : decode cX7_write 36 = .ok (.iload_n 3, 1) := by decide +kernel
theorem dX7_write_37 : decode cX7_write 37 = .ok (.iastore, 1) := by decide +kernel
theorem dX7_write_38 : decode cX7_write 38 = .ok (.return_, 1) := by decide +kernel
theorem dX7_holds_0 : decode cX7_holds 0 = .ok (.iload_n 2, 1) := by decide +kernel
theorem dX7_holds_1 : decode cX7_holds 1 = .ok (.ifCond .lt 19, 3) := by decide +kernel
theorem dX7_holds_4 : decode cX7_holds 4 = .ok (.iload_n 2, 1) := by decide +kernel
theorem dX7_holds_5 : decode cX7_holds 5 = .ok (.aload_n 0, 1) := by decide +kernel
theorem dX7_holds_6 : decode cX7_holds 6 = .ok (.getfield 20, 3) := by decide +kernel
theorem dX7_holds_9 : decode cX7_holds 9 = .ok (.iload_n 1, 1) := by decide +kernel
theorem dX7_holds_10 : decode cX7_holds 10 = .ok (.iaload, 1) := by decide +kernel
theorem dX7_holds_11 : decode cX7_holds 11 = .ok (.iload_n 3, 1) := by decide +kernel
theorem dX7_holds_12 : decode cX7_holds 12 = .ok (.isub, 1) := by decide +kernel
theorem dX7_holds_13 : decode cX7_holds 13 = .ok (.if_icmp .gt 7, 3) := by decide +kernel
theorem dX7_holds_16 : decode cX7_holds 16 = .ok (.iconst 1, 1) := by decide +kernel
theorem dX7_holds_17 : decode cX7_holds 17 = .ok (.goto 4, 3) := by decide +kernel
theorem dX7_holds_20 : decode cX7_holds 20 = .ok (.iconst 0, 1) := by decide +kernel
theorem dX7_holds_21 : decode cX7_holds 21 = .ok (.ireturn, 1) := by decide +kernel
theorem dX8_init_0 : decode cX8_init 0 = .ok (.aload_n 0, 1) := by decide +kernel
theorem dX8_init_1 : decode cX8_init 1 = .ok (.invokespecial 3, 3) := by decide +kernel
theorem dX8_init_4 : decode cX8_init 4 = .ok (.aload_n 0, 1) := by decide +kernel
theorem dX8_init_5 : decode cX8_init 5 = .ok (.iconst 3, 1) := by decide +kernel
theorem dX8_init_6 : decode cX8_init 6 = .ok (.newarray .boolean, 2) := by decide +kernel
theorem dX8_init_8 : decode cX8_init 8 = .ok (.putfield 9, 3) := by decide +kernel
theorem dX8_init_11 : decode cX8_init 11 = .ok (.aload_n 0, 1) := by decide +kernel
theorem dX8_init_12 : decode cX8_init 12 = .ok (.iconst 3, 1) := by decide +kernel
theorem dX8_init_13 : decode cX8_init 13 = .ok (.bipush 61, 2) := by decide +kernel
theorem dX8_init_15 : decode cX8_init 15 = .ok (.multianewarray 15 2, 4) := by decide +kernel
theorem dX8_init_19 : decode cX8_init 19 = .ok (.putfield 17, 3) := by decide +kernel
theorem dX8_init_22 : decode cX8_init 22 = .ok (.aload_n 0, 1) := by decide +kernel
theorem dX8_init_23 : decode cX8_init 23 = .ok (.iconst 3, 1) := by decide +kernel
theorem dX8_init_24 : decode cX8_init 24 = .ok (.bipush 61, 2) := by decide +kernel
theorem dX8_init_26 : decode cX8_init 26 = .ok (.multianewarray 15 2, 4) := by decide +kernel
theorem dX8_init_30 : decode cX8_init 30 = .ok (.putfield 20, 3) := by decide +kernel
theorem dX8_init_33 : decode cX8_init 33 = .ok (.aload_n 0, 1) := by decide +kernel
theorem dX8_init_34 : decode cX8_init 34 = .ok (.bipush 40, 2) := by decide +kernel
theorem dX8_init_36 : decode cX8_init 36 = .ok (.newarray .int, 2) := by decide +kernel
theorem dX8_init_38 : decode cX8_init 38 = .ok (.putfield 23, 3) := by decide +kernel
theorem dX8_init_41 : decode cX8_init 41 = .ok (.aload_n 0, 1) := by decide +kernel
theorem dX8_init_42 : decode cX8_init 42 = .ok (.bipush 40, 2) := by decide +kernel
theorem dX8_init_44 : decode cX8_init 44 = .ok (.newarray .int, 2) := by decide +kernel
theorem dX8_init_46 : decode cX8_init 46 = .ok (.putfield 27, 3) := by decide +kernel
theorem dX8_init_49 : decode cX8_init 49 = .ok (.aload_n 0, 1) := by decide +kernel
theorem dX8_init_50 : decode cX8_init 50 = .ok (.bipush 40, 2) := by decide +kernel
theorem dX8_init_52 : decode cX8_init 52 = .ok (.newarray .int, 2) := by decide +kernel
theorem dX8_init_54 : decode cX8_init 54 = .ok (.putfield 30, 3) := by decide +kernel
theorem dX8_init_57 : decode cX8_init 57 = .ok (.aload_n 0, 1) := by decide +kernel
theorem dX8_init_58 : decode cX8_init 58 = .ok (.bipush 40, 2) := by decide +kernel
theorem dX8_init_60 : decode cX8_init 60 = .ok (.newarray .int, 2) := by decide +kernel
theorem dX8_init_62 : decode cX8_init 62 = .ok (.putfield 33, 3) := by decide +kernel
theorem dX8_init_65 : decode cX8_init 65 = .ok (.aload_n 0, 1) := by decide +kernel
theorem dX8_init_66 : decode cX8_init 66 = .ok (.bipush 40, 2) := by decide +kernel
theorem dX8_init_68 : decode cX8_init 68 = .ok (.newarray .int, 2) := by decide +kernel
theorem dX8_init_70 : decode cX8_init 70 = .ok (.putfield 36, 3) := by decide +kernel
theorem dX8_init_73 : decode cX8_init 73 = .ok (.aload_n 0, 1) := by decide +kernel
theorem dX8_init_74 : decode cX8_init 74 = .ok (.bipush 40, 2) := by decide +kernel
theorem dX8_init_76 : decode cX8_init 76 = .ok (.newarray .int, 2) := by decide +kernel
theorem dX8_init_78 : decode cX8_init 78 = .ok (.putfield 39, 3) := by decide +kernel
theorem dX8_init_81 : decode cX8_init 81 = .ok (.aload_n 0, 1) := by decide +kernel
theorem dX8_init_82 : decode cX8_init 82 = .ok (.bipush 30, 2) := by decide +kernel
theorem dX8_init_84 : decode cX8_init 84 = .ok (.putfield 42, 3) := by decide +kernel
theorem dX8_init_87 : decode cX8_init 87 = .ok (.aload_n 0, 1) := by decide +kernel
theorem dX8_init_88 : decode cX8_init 88 = .ok (.getfield 9, 3) := by decide +kernel
theorem dX8_init_91 : decode cX8_init 91 = .ok (.iconst 0, 1) := by decide +kernel
theorem dX8_init_92 : decode cX8_init 92 = .ok (.iconst 1, 1) := by decide +kernel
theorem dX8_init_93 : decode cX8_init 93 = .ok (.bastore, 1) := by decide +kernel
theorem dX8_init_94 : decode cX8_init 94 = .ok (.return_, 1) := by decide +kernel
theorem dX8_hear_0 : decode cX8_hear 0 = .ok (.iload_n 2, 1) := by decide +kernel
theorem dX8_hear_1 : decode cX8_hear 1 = .ok (.invokestatic 46, 3) := by decide +kernel
theorem dX8_hear_4 : decode cX8_hear 4 = .ok (.ifCond .ne 48, 3) := by decide +kernel
theorem dX8_hear_7 : decode cX8_hear 7 = .ok (.iload_n 3, 1) := by decide +kernel
theorem dX8_hear_8 : decode cX8_hear 8 = .ok (.iload_n 1, 1) := by decide +kernel
theorem dX8_hear_9 : decode cX8_hear 9 = .ok (.bipush 60, 2) := by decide +kernel
theorem dX8_hear_11 : decode cX8_hear 11 = .ok (.invokestatic 50, 3) := by decide +kernel
theorem dX8_hear_14 : decode cX8_hear 14 = .ok (.ifCond .ne 38, 3) := by decide +kernel
theorem dX8_hear_17 : decode cX8_hear 17 = .ok (.iload 4, 2) := by decide +kernel
theorem dX8_hear_19 : decode cX8_hear 19 = .ok (.iload_n 3, 1) := by decide +kernel
theorem dX8_hear_20 : decode cX8_hear 20 = .ok (.iconst 1, 1) := by decide +kernel
theorem dX8_hear_21 : decode cX8_hear 21 = .ok (.iadd, 1) := by decide +kernel
theorem dX8_hear_22 : decode cX8_hear 22 = .ok (.bipush 61, 2) := by decide +kernel
theorem dX8_hear_24 : decode cX8_hear 24 = .ok (.invokestatic 50, 3) := by decide +kernel
theorem dX8_hear_27 : decode cX8_hear 27 = .ok (.ifCond .ne 25, 3) := by decide +kernel
theorem dX8_hear_30 : decode cX8_hear 30 = .ok (.iload 5, 2) := by decide +kernel
theorem dX8_hear_32 : decode cX8_hear 32 = .ok (.iconst 0, 1) := by decide +kernel
theorem dX8_hear_33 : decode cX8_hear 33 = .ok (.bipush 99, 2) := by decide +kernel
theorem dX8_hear_35 : decode cX8_hear 35 = .ok (.invokestatic 50, 3) := by decide +kernel
theorem dX8_hear_38 : decode cX8_hear 38 = .ok (.ifCond .ne 14, 3) := by decide +kernel
theorem dX8_hear_41 : decode cX8_hear 41 = .ok (.iload 6, 2) := by decide +kernel
theorem dX8_hear_43 : decode cX8_hear 43 = .ok (.iconst 0, 1) := by decide +kernel
theorem dX8_hear_44 : decode cX8_hear 44 = .ok (.bipush 99, 2) := by decide +kernel
theorem dX8_hear_46 : decode cX8_hear 46 = .ok (.invokestatic 50, 3) := by decide +kernel
theorem dX8_hear_49 : decode cX8_hear 49 = .ok (.ifCond .eq 6, 3) := by decide +kernel
theorem dX8_hear_52 : decode cX8_hear 52 = .ok (.bipush (-2), 2) := by decide +kernel
theorem dX8_hear_54 : decode cX8_hear 54 = .ok (.ireturn, 1) := by decide +kernel
theorem dX8_hear_55 : decode cX8_hear 55 = .ok (.aload_n 0, 1) := by decide +kernel
theorem dX8_hear_56 : decode cX8_hear 56 = .ok (.getfield 54, 3) := by decide +kernel
theorem dX8_hear_59 : decode cX8_hear 59 = .ok (.bipush 40, 2) := by decide +kernel
theorem dX8_hear_61 : decode cX8_hear 61 = .ok (.if_icmp .lt 6, 3) := by decide +kernel
theorem dX8_hear_64 : decode cX8_hear 64 = .ok (.bipush (-4), 2) := by decide +kernel
theorem dX8_hear_66 : decode cX8_hear 66 = .ok (.ireturn, 1) := by decide +kernel
theorem dX8_hear_67 : decode cX8_hear 67 = .ok (.aload_n 0, 1) := by decide +kernel
theorem dX8_hear_68 : decode cX8_hear 68 = .ok (.getfield 23, 3) := by decide +kernel
theorem dX8_hear_71 : decode cX8_hear 71 = .ok (.aload_n 0, 1) := by decide +kernel
theorem dX8_hear_72 : decode cX8_hear 72 = .ok (.getfield 54, 3) := by decide +kernel
theorem dX8_hear_75 : decode cX8_hear 75 = .ok (.iload_n 2, 1) := by decide +kernel
theorem dX8_hear_76 : decode cX8_hear 76 = .ok (.iastore, 1) := by decide +kernel
theorem dX8_hear_77 : decode cX8_hear 77 = .ok (.aload_n 0, 1) := by decide +kernel
theorem dX8_hear_78 : decode cX8_hear 78 = .ok (.getfield 27, 3) := by decide +kernel
theorem dX8_hear_81 : decode cX8_hear 81 = .ok (.aload_n 0, 1) := by decide +kernel
theorem dX8_hear_82 : decode cX8_hear 82 = .ok (.getfield 54, 3) := by decide +kernel
theorem dX8_hear_85 : decode cX8_hear 85 = .ok (.iload_n 3, 1) := by decide +kernel
theorem dX8_hear_86 : decode cX8_hear 86 = .ok (.iastore, 1) := by decide +kernel
theorem dX8_hear_87 : decode cX8_hear 87 = .ok (.aload_n 0, 1) := by decide +kernel
theorem dX8_hear_88 : decode cX8_hear 88 = .ok (.getfield 30, 3) := by decide +kernel
theorem dX8_hear_91 : decode cX8_hear 91 = .ok (.aload_n 0, 1) := by decide +kernel
theorem dX8_hear_92 : decode cX8_hear 92 = .ok (.getfield 54, 3) := by decide +kernel
theorem dX8_hear_95 : decode cX8_hear 95 = .ok (.iload 4, 2) := by decide +kernel
theorem dX8_hear_97 : decode cX8_hear 97 = .ok (.iastore, 1) := by decide +kernel
theorem dX8_hear_98 : decode cX8_hear 98 = .ok (.aload_n 0, 1) := by decide +kernel
theorem dX8_hear_99 : decode cX8_hear 99 = .ok (.getfield 33, 3) := by decide +kernel
theorem dX8_hear_102 : decode cX8_hear 102 = .ok (.aload_n 0, 1) := by decide +kernel
theorem dX8_hear_103 : decode cX8_hear 103 = .ok (.getfield 54, 3) := by decide +kernel
theorem dX8_hear_106 : decode cX8_hear 106 = .ok (.iload 5, 2) := by decide +kernel
theorem dX8_hear_108 : decode cX8_hear 108 = .ok (.iastore, 1) := by decide +kernel
theorem dX8_hear_109 : decode cX8_hear 109 = .ok (.aload_n 0, 1) := by decide +kernel
theorem dX8_hear_110 : decode cX8_hear 110 = .ok (.getfield 36, 3) := by decide +kernel
theorem dX8_hear_113 : decode cX8_hear 113 = .ok (.aload_n 0, 1) := by decide +kernel
theorem dX8_hear_114 : decode cX8_hear 114 = .ok (.getfield 54, 3) := by decide +kernel
theorem dX8_hear_117 : decode cX8_hear 117 = .ok (.iload 6, 2) := by decide +kernel
theorem dX8_hear_119 : decode cX8_hear 119 = .ok (.iastore, 1) := by decide +kernel
theorem dX8_hear_120 : decode cX8_hear 120 = .ok (.aload_n 0, 1) := by decide +kernel
theorem dX8_hear_121 : decode cX8_hear 121 = .ok (.getfield 39, 3) := by decide +kernel
theorem dX8_hear_124 : decode cX8_hear 124 = .ok (.aload_n 0, 1) := by decide +kernel
theorem dX8_hear_125 : decode cX8_hear 125 = .ok (.getfield 54, 3) := by decide +kernel
theorem dX8_hear_128 : decode cX8_hear 128 = .ok (.iload_n 1, 1) := by decide +kernel
theorem dX8_hear_129 : decode cX8_hear 129 = .ok (.iastore, 1) := by decide +kernel
theorem dX8_hear_130 : decode cX8_hear 130 = .ok (.iload_n 3, 1) := by decide +kernel
theorem dX8_hear_131 : decode cX8_hear 131 = .ok (.istore 7, 2) := by decide +kernel
theorem dX8_hear_133 : decode cX8_hear 133 = .ok (.iload 7, 2) := by decide +kernel
theorem dX8_hear_135 : decode cX8_hear 135 = .ok (.iload 4, 2) := by decide +kernel
theorem dX8_hear_137 : decode cX8_hear 137 = .ok (.if_icmp .ge 31, 3) := by decide +kernel
theorem dX8_hear_140 : decode cX8_hear 140 = .ok (.aload_n 0, 1) := by decide +kernel
theorem dX8_hear_141 : decode cX8_hear 141 = .ok (.getfield 17, 3) := by decide +kernel
theorem dX8_hear_144 : decode cX8_hear 144 = .ok (.iload_n 2, 1) := by decide +kernel
theorem dX8_hear_145 : decode cX8_hear 145 = .ok (.aaload, 1) := by decide +kernel
theorem dX8_hear_146 : decode cX8_hear 146 = .ok (.iload 7, 2) := by decide +kernel
theorem dX8_hear_148 : decode cX8_hear 148 = .ok (.iload 5, 2) := by decide +kernel
theorem dX8_hear_150 : decode cX8_hear 150 = .ok (.iastore, 1) := by decide +kernel
theorem dX8_hear_151 : decode cX8_hear 151 = .ok (.aload_n 0, 1) := by decide +kernel
theorem dX8_hear_152 : decode cX8_hear 152 = .ok (.getfield 20, 3) := by decide +kernel
theorem dX8_hear_155 : decode cX8_hear 155 = .ok (.iload_n 2, 1) := by decide +kernel
theorem dX8_hear_156 : decode cX8_hear 156 = .ok (.aaload, 1) := by decide +kernel
theorem dX8_hear_157 : decode cX8_hear 157 = .ok (.iload 7, 2) := by decide +kernel
theorem dX8_hear_159 : decode cX8_hear 159 = .ok (.iload 6, 2) := by decide +kernel
theorem dX8_hear_161 : decode cX8_hear 161 = .ok (.iastore, 1) := by decide +kernel
theorem dX8_hear_162 : decode cX8_hear 162 = .ok (.iinc 7 1, 3) := by decide +kernel
theorem dX8_hear_165 : decode cX8_hear 165 = .ok (.goto (-32), 3) := by decide +kernel
theorem dX8_hear_168 : decode cX8_hear 168 = .ok (.aload_n 0, 1) := by decide +kernel
theorem dX8_hear_169 : decode cX8_hear 169 = .ok (.dup, 1) := by decide +kernel
theorem dX8_hear_170 : decode cX8_hear 170 = .ok (.getfield 54, 3) := by decide +kernel
theorem dX8_hear_173 : decode cX8_hear 173 = .ok (.dup_x1, 1) := by decide +kernel
theorem dX8_hear_174 : decode cX8_hear 174 = .ok (.iconst 1, 1) := by decide +kernel
theorem dX8_hear_175 : decode cX8_hear 175 = .ok (.iadd, 1) := by decide +kernel
theorem dX8_hear_176 : decode cX8_hear 176 = .ok (.putfield 54, 3) := by decide +kernel
theorem dX8_hear_179 : decode cX8_hear 179 = .ok (.ireturn, 1) := by decide +kernel
theorem dX8_waterKnown_0 : decode cX8_waterKnown 0 = .ok (.aload_n 0, 1) := by decide +kernel
theorem dX8_waterKnown_1 : decode cX8_waterKnown 1 = .ok (.iload_n 1, 1) := by decide +kernel
theorem dX8_waterKnown_2 : decode cX8_waterKnown 2 = .ok (.iload_n 2, 1) := by decide +kernel
theorem dX8_waterKnown_3 : decode cX8_waterKnown 3 = .ok (.iload_n 3, 1) := by decide +kernel
theorem dX8_waterKnown_4 : decode cX8_waterKnown 4 = .ok (.invokevirtual 57, 3) := by decide +kernel
theorem dX8_waterKnown_7 : decode cX8_waterKnown 7 = .ok (.istore 4, 2) := by decide +kernel
theorem dX8_waterKnown_9 : decode cX8_waterKnown 9 = .ok (.iload 4, 2) := by decide +kernel
theorem dX8_waterKnown_11 : decode cX8_waterKnown 11 = .ok (.iconst (-1), 1) := by decide +kernel
theorem dX8_waterKnown_12 : decode cX8_waterKnown 12 = .ok (.if_icmp .ne 7, 3) := by decide +kernel
theorem dX8_waterKnown_15 : decode cX8_waterKnown 15 = .ok (.iconst 0, 1) := by decide +kernel
theorem dX8_waterKnown_16 : decode cX8_waterKnown 16 = .ok (.goto 10, 3) := by decide +kernel
theorem dX8_waterKnown_19 : decode cX8_waterKnown 19 = .ok (.aload_n 0, 1) := by decide +kernel
theorem dX8_waterKnown_20 : decode cX8_waterKnown 20 = .ok (.getfield 33, 3) := by decide +kernel
theorem dX8_waterKnown_23 : decode cX8_waterKnown 23 = .ok (.iload 4, 2) := by decide +kernel
theorem dX8_waterKnown_25 : decode cX8_waterKnown 25 = .ok (.iaload, 1) := by decide +kernel
theorem dX8_waterKnown_26 : decode cX8_waterKnown 26 = .ok (.ireturn, 1) := by decide +kernel
theorem dX8_windKnown_0 : decode cX8_windKnown 0 = .ok (.aload_n 0, 1) := by decide +kernel
theorem dX8_windKnown_1 : decode cX8_windKnown 1 = .ok (.iload_n 1, 1) := by decide +kernel
theorem dX8_windKnown_2 : decode cX8_windKnown 2 = .ok (.iload_n 2, 1) := by decide +kernel
theorem dX8_windKnown_3 : decode cX8_windKnown 3 = .ok (.iload_n 3, 1) := by decide +kernel
theorem dX8_windKnown_4 : decode cX8_windKnown 4 = .ok (.invokevirtual 57, 3) := by decide +kernel
theorem dX8_windKnown_7 : decode cX8_windKnown 7 = .ok (.istore 4, 2) := by decide +kernel
theorem dX8_windKnown_9 : decode cX8_windKnown 9 = .ok (.iload 4, 2) := by decide +kernel
theorem dX8_windKnown_11 : decode cX8_windKnown 11 = .ok (.iconst (-1), 1) := by decide +kernel
theorem dX8_windKnown_12 : decode cX8_windKnown 12 = .ok (.if_icmp .ne 7, 3) := by decide +kernel
theorem dX8_windKnown_15 : decode cX8_windKnown 15 = .ok (.iconst 0, 1) := by decide +kernel
theorem dX8_windKnown_16 : decode cX8_windKnown 16 = .ok (.goto 10, 3) := by decide +kernel
theorem dX8_windKnown_19 : decode cX8_windKnown 19 = .ok (.aload_n 0, 1) := by decide +kernel
theorem dX8_windKnown_20 : decode cX8_windKnown 20 = .ok (.getfield 36, 3) := by decide +kernel
theorem dX8_windKnown_23 : decode cX8_windKnown 23 = .ok (.iload 4, 2) := by decide +kernel
theorem dX8_windKnown_25 : decode cX8_windKnown 25 = .ok (.iaload, 1) := by decide +kernel
theorem dX8_windKnown_26 : decode cX8_windKnown 26 = .ok (.ireturn, 1) := by decide +kernel
theorem dX8_wasDanger_0 : decode cX8_wasDanger 0 = .ok (.iload_n 2, 1) := by decide +kernel
theorem dX8_wasDanger_1 : decode cX8_wasDanger 1 = .ok (.bipush 12, 2) := by decide +kernel
theorem dX8_wasDanger_3 : decode cX8_wasDanger 3 = .ok (.iadd, 1) := by decide +kernel
theorem dX8_wasDanger_4 : decode cX8_wasDanger 4 = .ok (.aload_n 0, 1) := by decide +kernel
theorem dX8_wasDanger_5 : decode cX8_wasDanger 5 = .ok (.getfield 42, 3) := by decide +kernel
theorem dX8_wasDanger_8 : decode cX8_wasDanger 8 = .ok (.invokestatic 61, 3) := by decide +kernel
theorem dX8_wasDanger_11 : decode cX8_wasDanger 11 = .ok (.istore_n 3, 1) := by decide +kernel
theorem dX8_wasDanger_12 : decode cX8_wasDanger 12 = .ok (.iconst 0, 1) := by decide +kernel
theorem dX8_wasDanger_13 : decode cX8_wasDanger 13 = .ok (.istore 4, 2) := by decide +kernel
theorem dX8_wasDanger_15 : decode cX8_wasDanger 15 = .ok (.iload 4, 2) := by decide +kernel
theorem dX8_wasDanger_17 : decode cX8_wasDanger 17 = .ok (.iconst 3, 1) := by decide +kernel
theorem dX8_wasDanger_18 : decode cX8_wasDanger 18 = .ok (.if_icmp .ge 49, 3) := by decide +kernel
theorem dX8_wasDanger_21 : decode cX8_wasDanger 21 = .ok (.iload_n 2, 1) := by decide +kernel
theorem dX8_wasDanger_22 : decode cX8_wasDanger 22 = .ok (.istore 5, 2) := by decide +kernel
theorem dX8_wasDanger_24 : decode cX8_wasDanger 24 = .ok (.aload_n 0, 1) := by decide +kernel
theorem dX8_wasDanger_25 : decode cX8_wasDanger 25 = .ok (.getfield 9, 3) := by decide +kernel
theorem dX8_wasDanger_28 : decode cX8_wasDanger 28 = .ok (.iload 4, 2) := by decide +kernel
theorem dX8_wasDanger_30 : decode cX8_wasDanger 30 = .ok (.baload, 1) := by decide +kernel
theorem dX8_wasDanger_31 : decode cX8_wasDanger 31 = .ok (.ifCond .eq 30, 3) := by decide +kernel
theorem dX8_wasDanger_34 : decode cX8_wasDanger 34 = .ok (.iload 5, 2) := by decide +kernel
theorem dX8_wasDanger_36 : decode cX8_wasDanger 36 = .ok (.iload_n 3, 1) := by decide +kernel
theorem dX8_wasDanger_37 : decode cX8_wasDanger 37 = .ok (.if_icmp .gt 24, 3) := by decide +kernel
theorem dX8_wasDanger_40 : decode cX8_wasDanger 40 = .ok (.aload_n 0, 1) := by decide +kernel
theorem dX8_wasDanger_41 : decode cX8_wasDanger 41 = .ok (.iload 4, 2) := by decide +kernel
theorem dX8_wasDanger_43 : decode cX8_wasDanger 43 = .ok (.iload 5, 2) := by decide +kernel
theorem dX8_wasDanger_45 : decode cX8_wasDanger 45 = .ok (.iload_n 2, 1) := by decide +kernel
theorem dX8_wasDanger_46 : decode cX8_wasDanger 46 = .ok (.invokevirtual 67, 3) := by decide +kernel
theorem dX8_wasDanger_49 : decode cX8_wasDanger 49 = .ok (.iload_n 1, 1) := by decide +kernel
theorem dX8_wasDanger_50 : decode cX8_wasDanger 50 = .ok (.if_icmp .le 5, 3) := by decide +kernel
theorem dX8_wasDanger_53 : decode cX8_wasDanger 53 = .ok (.iconst 1, 1) := by decide +kernel
theorem dX8_wasDanger_54 : decode cX8_wasDanger 54 = .ok (.ireturn, 1) := by decide +kernel
theorem dX8_wasDanger_55 : decode cX8_wasDanger 55 = .ok (.iinc 5 1, 3) := by decide +kernel
theorem dX8_wasDanger_58 : decode cX8_wasDanger 58 = .ok (.goto (-34), 3) := by decide +kernel
theorem dX8_wasDanger_61 : decode cX8_wasDanger 61 = .ok (.iinc 4 1, 3) := by decide +kernel
theorem dX8_wasDanger_64 : decode cX8_wasDanger 64 = .ok (.goto (-49), 3) := by decide +kernel
theorem dX8_wasDanger_67 : decode cX8_wasDanger 67 = .ok (.iconst 0, 1) := by decide +kernel
theorem dX8_wasDanger_68 : decode cX8_wasDanger 68 = .ok (.ireturn, 1) := by decide +kernel
theorem dX8_teller_0 : decode cX8_teller 0 = .ok (.aload_n 0, 1) := by decide +kernel
theorem dX8_teller_1 : decode cX8_teller 1 = .ok (.getfield 54, 3) := by decide +kernel
theorem dX8_teller_4 : decode cX8_teller 4 = .ok (.iconst 1, 1) := by decide +kernel
theorem dX8_teller_5 : decode cX8_teller 5 = .ok (.isub, 1) := by decide +kernel
theorem dX8_teller_6 : decode cX8_teller 6 = .ok (.istore 4, 2) := by decide +kernel
theorem dX8_teller_8 : decode cX8_teller 8 = .ok (.iload 4, 2) := by decide +kernel
theorem dX8_teller_10 : decode cX8_teller 10 = .ok (.ifCond .lt 56, 3) := by decide +kernel
theorem dX8_teller_13 : decode cX8_teller 13 = .ok (.aload_n 0, 1) := by decide +kernel
theorem dX8_teller_14 : decode cX8_teller 14 = .ok (.getfield 23, 3) := by decide +kernel
theorem dX8_teller_17 : decode cX8_teller 17 = .ok (.iload 4, 2) := by decide +kernel
theorem dX8_teller_19 : decode cX8_teller 19 = .ok (.iaload, 1) := by decide +kernel
theorem dX8_teller_20 : decode cX8_teller 20 = .ok (.iload_n 1, 1) := by decide +kernel
theorem dX8_teller_21 : decode cX8_teller 21 = .ok (.if_icmp .ne 39, 3) := by decide +kernel
theorem dX8_teller_24 : decode cX8_teller 24 = .ok (.aload_n 0, 1) := by decide +kernel
theorem dX8_teller_25 : decode cX8_teller 25 = .ok (.getfield 39, 3) := by decide +kernel
theorem dX8_teller_28 : decode cX8_teller 28 = .ok (.iload 4, 2) := by decide +kernel
theorem dX8_teller_30 : decode cX8_teller 30 = .ok (.iaload, 1) := by decide +kernel
theorem dX8_teller_31 : decode cX8_teller 31 = .ok (.iload_n 3, 1) := by decide +kernel
theorem dX8_teller_32 : decode cX8_teller 32 = .ok (.if_icmp .gt 28, 3) := by decide +kernel
theorem dX8_teller_35 : decode cX8_teller 35 = .ok (.aload_n 0, 1) := by decide +kernel
theorem dX8_teller_36 : decode cX8_teller 36 = .ok (.getfield 27, 3) := by decide +kernel
theorem dX8_teller_39 : decode cX8_teller 39 = .ok (.iload 4, 2) := by decide +kernel
theorem dX8_teller_41 : decode cX8_teller 41 = .ok (.iaload, 1) := by decide +kernel
theorem dX8_teller_42 : decode cX8_teller 42 = .ok (.iload_n 2, 1) := by decide +kernel
theorem dX8_teller_43 : decode cX8_teller 43 = .ok (.if_icmp .gt 17, 3) := by decide +kernel
theorem dX8_teller_46 : decode cX8_teller 46 = .ok (.iload_n 2, 1) := by decide +kernel
theorem dX8_teller_47 : decode cX8_teller 47 = .ok (.aload_n 0, 1) := by decide +kernel
theorem dX8_teller_48 : decode cX8_teller 48 = .ok (.getfield 30, 3) := by decide +kernel
theorem dX8_teller_51 : decode cX8_teller 51 = .ok (.iload 4, 2) := by decide +kernel
theorem dX8_teller_53 : decode cX8_teller 53 = .ok (.iaload, 1) := by decide +kernel
theorem dX8_teller_54 : decode cX8_teller 54 = .ok (.if_icmp .ge 6, 3) := by decide +kernel
theorem dX8_teller_57 : decode cX8_teller 57 = .ok (.iload 4, 2) := by decide +kernel
theorem dX8_teller_59 : decode cX8_teller 59 = .ok (.ireturn, 1) := by decide +kernel
theorem dX8_teller_60 : decode cX8_teller 60 = .ok (.iinc 4 (-1), 3) := by decide +kernel
theorem dX8_teller_63 : decode cX8_teller 63 = .ok (.goto (-55), 3) := by decide +kernel
theorem dX8_teller_66 : decode cX8_teller 66 = .ok (.iconst (-1), 1) := by decide +kernel
theorem dX8_teller_67 : decode cX8_teller 67 = .ok (.ireturn, 1) := by decide +kernel
theorem dX9_init_0 : decode cX9_init 0 = .ok (.aload_n 0, 1) := by decide +kernel
theorem dX9_init_1 : decode cX9_init 1 = .ok (.invokespecial 3, 3) := by decide +kernel
theorem dX9_init_4 : decode cX9_init 4 = .ok (.aload_n 0, 1) := by decide +kernel
theorem dX9_init_5 : decode cX9_init 5 = .ok (.bipush 6, 2) := by decide +kernel
theorem dX9_init_7 : decode cX9_init 7 = .ok (.newarray .int, 2) := by decide +kernel
theorem dX9_init_9 : decode cX9_init 9 = .ok (.putfield 9, 3) := by decide +kernel
theorem dX9_init_12 : decode cX9_init 12 = .ok (.aload_n 0, 1) := by decide +kernel
theorem dX9_init_13 : decode cX9_init 13 = .ok (.bipush 6, 2) := by decide +kernel
theorem dX9_init_15 : decode cX9_init 15 = .ok (.newarray .int, 2) := by decide +kernel
theorem dX9_init_17 : decode cX9_init 17 = .ok (.putfield 15, 3) := by decide +kernel
theorem dX9_init_20 : decode cX9_init 20 = .ok (.aload_n 0, 1) := by decide +kernel
theorem dX9_init_21 : decode cX9_init 21 = .ok (.getfield 15, 3) := by decide +kernel
theorem dX9_init_24 : decode cX9_init 24 = .ok (.iconst (-1), 1) := by decide +kernel
theorem dX9_init_25 : decode cX9_init 25 = .ok (.invokestatic 18, 3) := by decide +kernel
theorem dX9_init_28 : decode cX9_init 28 = .ok (.return_, 1) := by decide +kernel
