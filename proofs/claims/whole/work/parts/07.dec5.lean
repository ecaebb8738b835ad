theorem dX5_init_0 : decode cX5_init 0 = .ok (.aload_n 0, 1) := by decide +kernel
theorem dX5_init_1 : decode cX5_init 1 = .ok (.invokespecial 1, 3) := by decide +kernel
theorem dX5_init_4 : decode cX5_init 4 = .ok (.aload_n 0, 1) := by decide +kernel
theorem dX5_init_5 : decode cX5_init 5 = .ok (.iconst (-1), 1) := by decide +kernel
theorem dX5_init_6 : decode cX5_init 6 = .ok (.putfield 9, 3) := by decide +kernel
theorem dX5_init_9 : decode cX5_init 9 = .ok (.aload_n 0, 1) := by decide +kernel
theorem dX5_init_10 : decode cX5_init 10 = .ok (.bipush 8, 2) := by decide +kernel
theorem dX5_init_12 : decode cX5_init 12 = .ok (.newarray .int, 2) := by decide +kernel
theorem dX5_init_14 : decode cX5_init 14 = .ok (.putfield 13, 3) := by decide +kernel
theorem dX5_init_17 : decode cX5_init 17 = .ok (.aload_n 0, 1) := by decide +kernel
theorem dX5_init_18 : decode cX5_init 18 = .ok (.bipush 8, 2) := by decide +kernel
theorem dX5_init_20 : decode cX5_init 20 = .ok (.newarray .int, 2) := by decide +kernel
theorem dX5_init_22 : decode cX5_init 22 = .ok (.putfield 17, 3) := by decide +kernel
theorem dX5_init_25 : decode cX5_init 25 = .ok (.aload_n 0, 1) := by decide +kernel
theorem dX5_init_26 : decode cX5_init 26 = .ok (.sipush 8192, 3) := by decide +kernel
theorem dX5_init_29 : decode cX5_init 29 = .ok (.newarray .int, 2) := by decide +kernel
theorem dX5_init_31 : decode cX5_init 31 = .ok (.putfield 20, 3) := by decide +kernel
theorem dX5_init_34 : decode cX5_init 34 = .ok (.aload_n 0, 1) := by decide +kernel
theorem dX5_init_35 : decode cX5_init 35 = .ok (.sipush 8192, 3) := by decide +kernel
theorem dX5_init_38 : decode cX5_init 38 = .ok (.newarray .int, 2) := by decide +kernel
theorem dX5_init_40 : decode cX5_init 40 = .ok (.putfield 23, 3) := by decide +kernel
theorem dX5_init_43 : decode cX5_init 43 = .ok (.aload_n 0, 1) := by decide +kernel
theorem dX5_init_44 : decode cX5_init 44 = .ok (.bipush 8, 2) := by decide +kernel
theorem dX5_init_46 : decode cX5_init 46 = .ok (.newarray .int, 2) := by decide +kernel
theorem dX5_init_48 : decode cX5_init 48 = .ok (.putfield 26, 3) := by decide +kernel
theorem dX5_init_51 : decode cX5_init 51 = .ok (.aload_n 0, 1) := by decide +kernel
theorem dX5_init_52 : decode cX5_init 52 = .ok (.sipush 256, 3) := by decide +kernel
theorem dX5_init_55 : decode cX5_init 55 = .ok (.newarray .int, 2) := by decide +kernel
theorem dX5_init_57 : decode cX5_init 57 = .ok (.putfield 29, 3) := by decide +kernel
theorem dX5_init_60 : decode cX5_init 60 = .ok (.aload_n 0, 1) := by decide +kernel
theorem dX5_init_61 : decode cX5_init 61 = .ok (.sipush 256, 3) := by decide +kernel
theorem dX5_init_64 : decode cX5_init 64 = .ok (.newarray .int, 2) := by decide +kernel
theorem dX5_init_66 : decode cX5_init 66 = .ok (.putfield 32, 3) := by decide +kernel
theorem dX5_init_69 : decode cX5_init 69 = .ok (.aload_n 0, 1) := by decide +kernel
theorem dX5_init_70 : decode cX5_init 70 = .ok (.sipush 256, 3) := by decide +kernel
theorem dX5_init_73 : decode cX5_init 73 = .ok (.newarray .int, 2) := by decide +kernel
theorem dX5_init_75 : decode cX5_init 75 = .ok (.putfield 35, 3) := by decide +kernel
theorem dX5_init_78 : decode cX5_init 78 = .ok (.aload_n 0, 1) := by decide +kernel
theorem dX5_init_79 : decode cX5_init 79 = .ok (.sipush 256, 3) := by decide +kernel
theorem dX5_init_82 : decode cX5_init 82 = .ok (.newarray .boolean, 2) := by decide +kernel
theorem dX5_init_84 : decode cX5_init 84 = .ok (.putfield 38, 3) := by decide +kernel
theorem dX5_init_87 : decode cX5_init 87 = .ok (.aload_n 0, 1) := by decide +kernel
theorem dX5_init_88 : decode cX5_init 88 = .ok (.sipush 256, 3) := by decide +kernel
theorem dX5_init_91 : decode cX5_init 91 = .ok (.newarray .int, 2) := by decide +kernel
theorem dX5_init_93 : decode cX5_init 93 = .ok (.putfield 42, 3) := by decide +kernel
theorem dX5_init_96 : decode cX5_init 96 = .ok (.iload_n 1, 1) := by decide +kernel
theorem dX5_init_97 : decode cX5_init 97 = .ok (.iconst 1, 1) := by decide +kernel
theorem dX5_init_98 : decode cX5_init 98 = .ok (.if_icmp .ge 7, 3) := by decide +kernel
theorem dX5_init_101 : decode cX5_init 101 = .ok (.iconst 1, 1) := by decide +kernel
theorem dX5_init_102 : decode cX5_init 102 = .ok (.goto 15, 3) := by decide +kernel
theorem dX5_init_105 : decode cX5_init 105 = .ok (.iload_n 1, 1) := by decide +kernel
theorem dX5_init_106 : decode cX5_init 106 = .ok (.bipush 8, 2) := by decide +kernel
theorem dX5_init_108 : decode cX5_init 108 = .ok (.if_icmp .le 8, 3) := by decide +kernel
theorem dX5_init_111 : decode cX5_init 111 = .ok (.bipush 8, 2) := by decide +kernel
theorem dX5_init_113 : decode cX5_init 113 = .ok (.goto 4, 3) := by decide +kernel
theorem dX5_init_116 : decode cX5_init 116 = .ok (.iload_n 1, 1) := by decide +kernel
theorem dX5_init_117 : decode cX5_init 117 = .ok (.istore_n 3, 1) := by decide +kernel
theorem dX5_init_118 : decode cX5_init 118 = .ok (.iload_n 2, 1) := by decide +kernel
theorem dX5_init_119 : decode cX5_init 119 = .ok (.iconst 1, 1) := by decide +kernel
theorem dX5_init_120 : decode cX5_init 120 = .ok (.if_icmp .ge 7, 3) := by decide +kernel
theorem dX5_init_123 : decode cX5_init 123 = .ok (.iconst 1, 1) := by decide +kernel
theorem dX5_init_124 : decode cX5_init 124 = .ok (.goto 15, 3) := by decide +kernel
theorem dX5_init_127 : decode cX5_init 127 = .ok (.iload_n 2, 1) := by decide +kernel
theorem dX5_init_128 : decode cX5_init 128 = .ok (.bipush 16, 2) := by decide +kernel
theorem dX5_init_130 : decode cX5_init 130 = .ok (.if_icmp .le 8, 3) := by decide +kernel
theorem dX5_init_133 : decode cX5_init 133 = .ok (.bipush 16, 2) := by decide +kernel
theorem dX5_init_135 : decode cX5_init 135 = .ok (.goto 4, 3) := by decide +kernel
theorem dX5_init_138 : decode cX5_init 138 = .ok (.iload_n 2, 1) := by decide +kernel
theorem dX5_init_139 : decode cX5_init 139 = .ok (.istore 4, 2) := by decide +kernel
theorem dX5_init_141 : decode cX5_init 141 = .ok (.iconst 0, 1) := by decide +kernel
theorem dX5_init_142 : decode cX5_init 142 = .ok (.istore 5, 2) := by decide +kernel
theorem dX5_init_144 : decode cX5_init 144 = .ok (.iload 5, 2) := by decide +kernel
theorem dX5_init_146 : decode cX5_init 146 = .ok (.iload_n 3, 1) := by decide +kernel
theorem dX5_init_147 : decode cX5_init 147 = .ok (.if_icmp .ge 18, 3) := by decide +kernel
theorem dX5_init_150 : decode cX5_init 150 = .ok (.aload_n 0, 1) := by decide +kernel
theorem dX5_init_151 : decode cX5_init 151 = .ok (.getfield 13, 3) := by decide +kernel
theorem dX5_init_154 : decode cX5_init 154 = .ok (.iload 5, 2) := by decide +kernel
theorem dX5_init_156 : decode cX5_init 156 = .ok (.iload 4, 2) := by decide +kernel
theorem dX5_init_158 : decode cX5_init 158 = .ok (.iastore, 1) := by decide +kernel
theorem dX5_init_159 : decode cX5_init 159 = .ok (.iinc 5 1, 3) := by decide +kernel
theorem dX5_init_162 : decode cX5_init 162 = .ok (.goto (-18), 3) := by decide +kernel
theorem dX5_init_165 : decode cX5_init 165 = .ok (.return_, 1) := by decide +kernel
theorem dX5_thrown_0 : decode cX5_thrown 0 = .ok (.aload_n 0, 1) := by decide +kernel
theorem dX5_thrown_1 : decode cX5_thrown 1 = .ok (.getfield 45, 3) := by decide +kernel
theorem dX5_thrown_4 : decode cX5_thrown 4 = .ok (.ireturn, 1) := by decide +kernel
theorem dX5_placeOf_0 : decode cX5_placeOf 0 = .ok (.lload_n 0, 1) := by decide +kernel
theorem dX5_placeOf_1 : decode cX5_placeOf 1 = .ok (.lload_n 0, 1) := by decide +kernel
theorem dX5_placeOf_2 : decode cX5_placeOf 2 = .ok (.bipush 29, 2) := by decide +kernel
theorem dX5_placeOf_4 : decode cX5_placeOf 4 = .ok (.lushr, 1) := by decide +kernel
theorem dX5_placeOf_5 : decode cX5_placeOf 5 = .ok (.lxor, 1) := by decide +kernel
theorem dX5_placeOf_6 : decode cX5_placeOf 6 = .ok (.ldc2_w 48, 3) := by decide +kernel
theorem dX5_placeOf_9 : decode cX5_placeOf 9 = .ok (.lmul, 1) := by decide +kernel
theorem dX5_placeOf_10 : decode cX5_placeOf 10 = .ok (.lstore_n 2, 1) := by decide +kernel
theorem dX5_placeOf_11 : decode cX5_placeOf 11 = .ok (.lload_n 2, 1) := by decide +kernel
theorem dX5_placeOf_12 : decode cX5_placeOf 12 = .ok (.bipush 33, 2) := by decide +kernel
theorem dX5_placeOf_14 : decode cX5_placeOf 14 = .ok (.lushr, 1) := by decide +kernel
theorem dX5_placeOf_15 : decode cX5_placeOf 15 = .ok (.l2i, 1) := by decide +kernel
theorem dX5_placeOf_16 : decode cX5_placeOf 16 = .ok (.ireturn, 1) := by decide +kernel
theorem dX5_pointOf_0 : decode cX5_pointOf 0 = .ok (.ldc2_w 50, 3) := by decide +kernel
theorem dX5_pointOf_3 : decode cX5_pointOf 3 = .ok (.iload_n 0, 1) := by decide +kernel
theorem dX5_pointOf_4 : decode cX5_pointOf 4 = .ok (.i2l, 1) := by decide +kernel
theorem dX5_pointOf_5 : decode cX5_pointOf 5 = .ok (.lmul, 1) := by decide +kernel
theorem dX5_pointOf_6 : decode cX5_pointOf 6 = .ok (.iload_n 1, 1) := by decide +kernel
theorem dX5_pointOf_7 : decode cX5_pointOf 7 = .ok (.i2l, 1) := by decide +kernel
theorem dX5_pointOf_8 : decode cX5_pointOf 8 = .ok (.ladd, 1) := by decide +kernel
theorem dX5_pointOf_9 : decode cX5_pointOf 9 = .ok (.ldc2_w 52, 3) := by decide +kernel
theorem dX5_pointOf_12 : decode cX5_pointOf 12 = .ok (.ladd, 1) := by decide +kernel
theorem dX5_pointOf_13 : decode cX5_pointOf 13 = .ok (.invokestatic 54, 3) := by decide +kernel
theorem dX5_pointOf_16 : decode cX5_pointOf 16 = .ok (.ireturn, 1) := by decide +kernel
theorem dX5_ownerOf_0 : decode cX5_ownerOf 0 = .ok (.iload_n 1, 1) := by decide +kernel
theorem dX5_ownerOf_1 : decode cX5_ownerOf 1 = .ok (.i2l, 1) := by decide +kernel
theorem dX5_ownerOf_2 : decode cX5_ownerOf 2 = .ok (.invokestatic 54, 3) := by decide +kernel
theorem dX5_ownerOf_5 : decode cX5_ownerOf 5 = .ok (.istore_n 2, 1) := by decide +kernel
theorem dX5_ownerOf_6 : decode cX5_ownerOf 6 = .ok (.iconst (-1), 1) := by decide +kernel
theorem dX5_ownerOf_7 : decode cX5_ownerOf 7 = .ok (.istore_n 3, 1) := by decide +kernel
theorem dX5_ownerOf_8 : decode cX5_ownerOf 8 = .ok (.iconst 0, 1) := by decide +kernel
theorem dX5_ownerOf_9 : decode cX5_ownerOf 9 = .ok (.istore 4, 2) := by decide +kernel
theorem dX5_ownerOf_11 : decode cX5_ownerOf 11 = .ok (.iconst (-1), 1) := by decide +kernel
theorem dX5_ownerOf_12 : decode cX5_ownerOf 12 = .ok (.istore 5, 2) := by decide +kernel
theorem dX5_ownerOf_14 : decode cX5_ownerOf 14 = .ok (.iconst 0, 1) := by decide +kernel
theorem dX5_ownerOf_15 : decode cX5_ownerOf 15 = .ok (.istore 6, 2) := by decide +kernel
theorem dX5_ownerOf_17 : decode cX5_ownerOf 17 = .ok (.iconst 0, 1) := by decide +kernel
theorem dX5_ownerOf_18 : decode cX5_ownerOf 18 = .ok (.istore 7, 2) := by decide +kernel
theorem dX5_ownerOf_20 : decode cX5_ownerOf 20 = .ok (.iload 7, 2) := by decide +kernel
theorem dX5_ownerOf_22 : decode cX5_ownerOf 22 = .ok (.bipush 8, 2) := by decide +kernel
theorem dX5_ownerOf_24 : decode cX5_ownerOf 24 = .ok (.if_icmp .ge 80, 3) := by decide +kernel
theorem dX5_ownerOf_27 : decode cX5_ownerOf 27 = .ok (.iconst 0, 1) := by decide +kernel
theorem dX5_ownerOf_28 : decode cX5_ownerOf 28 = .ok (.istore 8, 2) := by decide +kernel
theorem dX5_ownerOf_30 : decode cX5_ownerOf 30 = .ok (.iload 8, 2) := by decide +kernel
theorem dX5_ownerOf_32 : decode cX5_ownerOf 32 = .ok (.aload_n 0, 1) := by decide +kernel
theorem dX5_ownerOf_33 : decode cX5_ownerOf 33 = .ok (.iload 7, 2) := by decide +kernel
theorem dX5_ownerOf_35 : decode cX5_ownerOf 35 = .ok (.iaload, 1) := by decide +kernel
theorem dX5_ownerOf_36 : decode cX5_ownerOf 36 = .ok (.if_icmp .ge 62, 3) := by decide +kernel
theorem dX5_ownerOf_39 : decode cX5_ownerOf 39 = .ok (.iload 7, 2) := by decide +kernel
theorem dX5_ownerOf_41 : decode cX5_ownerOf 41 = .ok (.iload 8, 2) := by decide +kernel
theorem dX5_ownerOf_43 : decode cX5_ownerOf 43 = .ok (.invokestatic 58, 3) := by decide +kernel
theorem dX5_ownerOf_46 : decode cX5_ownerOf 46 = .ok (.istore 9, 2) := by decide +kernel
theorem dX5_ownerOf_48 : decode cX5_ownerOf 48 = .ok (.iload 9, 2) := by decide +kernel
theorem dX5_ownerOf_50 : decode cX5_ownerOf 50 = .ok (.iload_n 2, 1) := by decide +kernel
theorem dX5_ownerOf_51 : decode cX5_ownerOf 51 = .ok (.if_icmp .lt 21, 3) := by decide +kernel
theorem dX5_ownerOf_54 : decode cX5_ownerOf 54 = .ok (.iload_n 3, 1) := by decide +kernel
theorem dX5_ownerOf_55 : decode cX5_ownerOf 55 = .ok (.ifCond .lt 10, 3) := by decide +kernel
theorem dX5_ownerOf_58 : decode cX5_ownerOf 58 = .ok (.iload 9, 2) := by decide +kernel
theorem dX5_ownerOf_60 : decode cX5_ownerOf 60 = .ok (.iload 4, 2) := by decide +kernel
theorem dX5_ownerOf_62 : decode cX5_ownerOf 62 = .ok (.if_icmp .ge 10, 3) := by decide +kernel
theorem dX5_ownerOf_65 : decode cX5_ownerOf 65 = .ok (.iload 7, 2) := by decide +kernel
theorem dX5_ownerOf_67 : decode cX5_ownerOf 67 = .ok (.istore_n 3, 1) := by decide +kernel
theorem dX5_ownerOf_68 : decode cX5_ownerOf 68 = .ok (.iload 9, 2) := by decide +kernel
theorem dX5_ownerOf_70 : decode cX5_ownerOf 70 = .ok (.istore 4, 2) := by decide +kernel
theorem dX5_ownerOf_72 : decode cX5_ownerOf 72 = .ok (.iload 5, 2) := by decide +kernel
theorem dX5_ownerOf_74 : decode cX5_ownerOf 74 = .ok (.ifCond .lt 10, 3) := by decide +kernel
theorem dX5_ownerOf_77 : decode cX5_ownerOf 77 = .ok (.iload 9, 2) := by decide +kernel
theorem dX5_ownerOf_79 : decode cX5_ownerOf 79 = .ok (.iload 6, 2) := by decide +kernel
theorem dX5_ownerOf_81 : decode cX5_ownerOf 81 = .ok (.if_icmp .ge 11, 3) := by decide +kernel
theorem dX5_ownerOf_84 : decode cX5_ownerOf 84 = .ok (.iload 7, 2) := by decide +kernel
theorem dX5_ownerOf_86 : decode cX5_ownerOf 86 = .ok (.istore 5, 2) := by decide +kernel
theorem dX5_ownerOf_88 : decode cX5_ownerOf 88 = .ok (.iload 9, 2) := by decide +kernel
theorem dX5_ownerOf_90 : decode cX5_ownerOf 90 = .ok (.istore 6, 2) := by decide +kernel
theorem dX5_ownerOf_92 : decode cX5_ownerOf 92 = .ok (.iinc 8 1, 3) := by decide +kernel
theorem dX5_ownerOf_95 : decode cX5_ownerOf 95 = .ok (.goto (-65), 3) := by decide +kernel
theorem dX5_ownerOf_98 : decode cX5_ownerOf 98 = .ok (.iinc 7 1, 3) := by decide +kernel
theorem dX5_ownerOf_101 : decode cX5_ownerOf 101 = .ok (.goto (-81), 3) := by decide +kernel
theorem dX5_ownerOf_104 : decode cX5_ownerOf 104 = .ok (.iload_n 3, 1) := by decide +kernel
theorem dX5_ownerOf_105 : decode cX5_ownerOf 105 = .ok (.ifCond .ge 8, 3) := by decide +kernel
theorem dX5_ownerOf_108 : decode cX5_ownerOf 108 = .ok (.iload 5, 2) := by decide +kernel
theorem dX5_ownerOf_110 : decode cX5_ownerOf 110 = .ok (.goto 4, 3) := by decide +kernel
theorem dX5_ownerOf_113 : decode cX5_ownerOf 113 = .ok (.iload_n 3, 1) := by decide +kernel
theorem dX5_ownerOf_114 : decode cX5_ownerOf 114 = .ok (.ireturn, 1) := by decide +kernel
theorem dX5_place_0 : decode cX5_place 0 = .ok (.aload_n 0, 1) := by decide +kernel
theorem dX5_place_1 : decode cX5_place 1 = .ok (.iconst 0, 1) := by decide +kernel
theorem dX5_place_2 : decode cX5_place 2 = .ok (.putfield 45, 3) := by decide +kernel
theorem dX5_place_5 : decode cX5_place 5 = .ok (.lload_n 1, 1) := by decide +kernel
theorem dX5_place_6 : decode cX5_place 6 = .ok (.invokestatic 54, 3) := by decide +kernel
theorem dX5_place_9 : decode cX5_place 9 = .ok (.ireturn, 1) := by decide +kernel
theorem dX5_find_0 : decode cX5_find 0 = .ok (.iconst 0, 1) := by decide +kernel
theorem dX5_find_1 : decode cX5_find 1 = .ok (.istore_n 3, 1) := by decide +kernel
theorem dX5_find_2 : decode cX5_find 2 = .ok (.iload_n 3, 1) := by decide +kernel
theorem dX5_find_3 : decode cX5_find 3 = .ok (.aload_n 0, 1) := by decide +kernel
theorem dX5_find_4 : decode cX5_find 4 = .ok (.getfield 26, 3) := by decide +kernel
theorem dX5_find_7 : decode cX5_find 7 = .ok (.iload_n 1, 1) := by decide +kernel
theorem dX5_find_8 : decode cX5_find 8 = .ok (.iaload, 1) := by decide +kernel
theorem dX5_find_9 : decode cX5_find 9 = .ok (.if_icmp .ge 25, 3) := by decide +kernel
theorem dX5_find_12 : decode cX5_find 12 = .ok (.aload_n 0, 1) := by decide +kernel
theorem dX5_find_13 : decode cX5_find 13 = .ok (.getfield 20, 3) := by decide +kernel
theorem dX5_find_16 : decode cX5_find 16 = .ok (.sipush 1024, 3) := by decide +kernel
theorem dX5_find_19 : decode cX5_find 19 = .ok (.iload_n 1, 1) := by decide +kernel
theorem dX5_find_20 : decode cX5_find 20 = .ok (.imul, 1) := by decide +kernel
theorem dX5_find_21 : decode cX5_find 21 = .ok (.iload_n 3, 1) := by decide +kernel
theorem dX5_find_22 : decode cX5_find 22 = .ok (.iadd, 1) := by decide +kernel
theorem dX5_find_23 : decode cX5_find 23 = .ok (.iaload, 1) := by decide +kernel
theorem dX5_find_24 : decode cX5_find 24 = .ok (.iload_n 2, 1) := by decide +kernel
theorem dX5_find_25 : decode cX5_find 25 = .ok (.if_icmp .ge 9, 3) := by decide +kernel
theorem dX5_find_28 : decode cX5_find 28 = .ok (.iinc 3 1, 3) := by decide +kernel
theorem dX5_find_31 : decode cX5_find 31 = .ok (.goto (-29), 3) := by decide +kernel
theorem dX5_find_34 : decode cX5_find 34 = .ok (.iload_n 3, 1) := by decide +kernel
theorem dX5_find_35 : decode cX5_find 35 = .ok (.ireturn, 1) := by decide +kernel
theorem dX5_has_0 : decode cX5_has 0 = .ok (.aload_n 0, 1) := by decide +kernel
theorem dX5_has_1 : decode cX5_has 1 = .ok (.iload_n 1, 1) := by decide +kernel
theorem dX5_has_2 : decode cX5_has 2 = .ok (.iload_n 2, 1) := by decide +kernel
theorem dX5_has_3 : decode cX5_has 3 = .ok (.invokevirtual 62, 3) := by decide +kernel
theorem dX5_has_6 : decode cX5_has 6 = .ok (.istore_n 3, 1) := by decide +kernel
theorem dX5_has_7 : decode cX5_has 7 = .ok (.iload_n 3, 1) := by decide +kernel
theorem dX5_has_8 : decode cX5_has 8 = .ok (.aload_n 0, 1) := by decide +kernel
theorem dX5_has_9 : decode cX5_has 9 = .ok (.getfield 26, 3) := by decide +kernel
theorem dX5_has_12 : decode cX5_has 12 = .ok (.iload_n 1, 1) := by decide +kernel
theorem dX5_has_13 : decode cX5_has 13 = .ok (.iaload, 1) := by decide +kernel
theorem dX5_has_14 : decode cX5_has 14 = .ok (.if_icmp .ge 23, 3) := by decide +kernel
theorem dX5_has_17 : decode cX5_has 17 = .ok (.aload_n 0, 1) := by decide +kernel
theorem dX5_has_18 : decode cX5_has 18 = .ok (.getfield 20, 3) := by decide +kernel
theorem dX5_has_21 : decode cX5_has 21 = .ok (.sipush 1024, 3) := by decide +kernel
theorem dX5_has_24 : decode cX5_has 24 = .ok (.iload_n 1, 1) := by decide +kernel
theorem dX5_has_25 : decode cX5_has 25 = .ok (.imul, 1) := by decide +kernel
theorem dX5_has_26 : decode cX5_has 26 = .ok (.iload_n 3, 1) := by decide +kernel
theorem dX5_has_27 : decode cX5_has 27 = .ok (.iadd, 1) := by decide +kernel
theorem dX5_has_28 : decode cX5_has 28 = .ok (.iaload, 1) := by decide +kernel
theorem dX5_has_29 : decode cX5_has 29 = .ok (.iload_n 2, 1) := by decide +kernel
theorem dX5_has_30 : decode cX5_has 30 = .ok (.if_icmp .ne 7, 3) := by decide +kernel
theorem dX5_has_33 : decode cX5_has 33 = .ok (.iconst 1, 1) := by decide +kernel
theorem dX5_has_34 : decode cX5_has 34 = .ok (.goto 4, 3) := by decide +kernel
theorem dX5_has_37 : decode cX5_has 37 = .ok (.iconst 0, 1) := by decide +kernel
theorem dX5_has_38 : decode cX5_has 38 = .ok (.ireturn, 1) := by decide +kernel
theorem dX5_valueIn_0 : decode cX5_valueIn 0 = .ok (.aload_n 0, 1) := by decide +kernel
theorem dX5_valueIn_1 : decode cX5_valueIn 1 = .ok (.getfield 23, 3) := by decide +kernel
theorem dX5_valueIn_4 : decode cX5_valueIn 4 = .ok (.sipush 1024, 3) := by decide +kernel
theorem dX5_valueIn_7 : decode cX5_valueIn 7 = .ok (.iload_n 1, 1) := by decide +kernel
theorem dX5_valueIn_8 : decode cX5_valueIn 8 = .ok (.imul, 1) := by decide +kernel
theorem dX5_valueIn_9 : decode cX5_valueIn 9 = .ok (.aload_n 0, 1) := by decide +kernel
theorem dX5_valueIn_10 : decode cX5_valueIn 10 = .ok (.iload_n 1, 1) := by decide +kernel
theorem dX5_valueIn_11 : decode cX5_valueIn 11 = .ok (.iload_n 2, 1) := by decide +kernel
theorem dX5_valueIn_12 : decode cX5_valueIn 12 = .ok (.invokevirtual 62, 3) := by decide +kernel
theorem dX5_valueIn_15 : decode cX5_valueIn 15 = .ok (.iadd, 1) := by decide +kernel
theorem dX5_valueIn_16 : decode cX5_valueIn 16 = .ok (.iaload, 1) := by decide +kernel
theorem dX5_valueIn_17 : decode cX5_valueIn 17 = .ok (.ireturn, 1) := by decide +kernel
theorem dX5_store_0 : decode cX5_store 0 = .ok (.aload_n 0, 1) := by decide +kernel
theorem dX5_store_1 : decode cX5_store 1 = .ok (.iload_n 1, 1) := by decide +kernel
theorem dX5_store_2 : decode cX5_store 2 = .ok (.iload_n 2, 1) := by decide +kernel
theorem dX5_store_3 : decode cX5_store 3 = .ok (.invokevirtual 62, 3) := by decide +kernel
theorem dX5_store_6 : decode cX5_store 6 = .ok (.istore 4, 2) := by decide +kernel
theorem dX5_store_8 : decode cX5_store 8 = .ok (.aload_n 0, 1) := by decide +kernel
theorem dX5_store_9 : decode cX5_store 9 = .ok (.iload_n 1, 1) := by decide +kernel
theorem dX5_store_10 : decode cX5_store 10 = .ok (.iload_n 2, 1) := by decide +kernel
theorem dX5_store_11 : decode cX5_store 11 = .ok (.invokevirtual 65, 3) := by decide +kernel
theorem dX5_store_14 : decode cX5_store 14 = .ok (.ifCond .ne 90, 3) := by decide +kernel
theorem dX5_store_17 : decode cX5_store 17 = .ok (.aload_n 0, 1) := by decide +kernel
theorem dX5_store_18 : decode cX5_store 18 = .ok (.getfield 26, 3) := by decide +kernel
theorem dX5_store_21 : decode cX5_store 21 = .ok (.iload_n 1, 1) := by decide +kernel
theorem dX5_store_22 : decode cX5_store 22 = .ok (.iaload, 1) := by decide +kernel
theorem dX5_store_23 : decode cX5_store 23 = .ok (.istore 5, 2) := by decide +kernel
theorem dX5_store_25 : decode cX5_store 25 = .ok (.iload 5, 2) := by decide +kernel
theorem dX5_store_27 : decode cX5_store 27 = .ok (.iload 4, 2) := by decide +kernel
theorem dX5_store_29 : decode cX5_store 29 = .ok (.if_icmp .le 65, 3) := by decide +kernel
theorem dX5_store_32 : decode cX5_store 32 = .ok (.aload_n 0, 1) := by decide +kernel
theorem dX5_store_33 : decode cX5_store 33 = .ok (.getfield 20, 3) := by decide +kernel
theorem dX5_store_36 : decode cX5_store 36 = .ok (.sipush 1024, 3) := by decide +kernel
theorem dX5_store_39 : decode cX5_store 39 = .ok (.iload_n 1, 1) := by decide +kernel
theorem dX5_store_40 : decode cX5_store 40 = .ok (.imul, 1) := by decide +kernel
theorem dX5_store_41 : decode cX5_store 41 = .ok (.iload 5, 2) := by decide +kernel
theorem dX5_store_43 : decode cX5_store 43 = .ok (.iadd, 1) := by decide +kernel
theorem dX5_store_44 : decode cX5_store 44 = .ok (.aload_n 0, 1) := by decide +kernel
theorem dX5_store_45 : decode cX5_store 45 = .ok (.getfield 20, 3) := by decide +kernel
theorem dX5_store_48 : decode cX5_store 48 = .ok (.sipush 1024, 3) := by decide +kernel
theorem dX5_store_51 : decode cX5_store 51 = .ok (.iload_n 1, 1) := by decide +kernel
theorem dX5_store_52 : decode cX5_store 52 = .ok (.imul, 1) := by decide +kernel
theorem dX5_store_53 : decode cX5_store 53 = .ok (.iload 5, 2) := by decide +kernel
theorem dX5_store_55 : decode cX5_store 55 = .ok (.iadd, 1) := by decide +kernel
theorem dX5_store_56 : decode cX5_store 56 = .ok (.iconst 1, 1) := by decide +kernel
theorem dX5_store_57 : decode cX5_store 57 = .ok (.isub, 1) := by decide +kernel
theorem dX5_store_58 : decode cX5_store 58 = .ok (.iaload, 1) := by decide +kernel
theorem dX5_store_59 : decode cX5_store 59 = .ok (.iastore, 1) := by decide +kernel
theorem dX5_store_60 : decode cX5_store 60 = .ok (.aload_n 0, 1) := by decide +kernel
theorem dX5_store_61 : decode cX5_store 61 = .ok (.getfield 23, 3) := by decide +kernel
theorem dX5_store_64 : decode cX5_store 64 = .ok (.sipush 1024, 3) := by decide +kernel
theorem dX5_store_67 : decode cX5_store 67 = .ok (.iload_n 1, 1) := by decide +kernel
theorem dX5_store_68 : decode cX5_store 68 = .ok (.imul, 1) := by decide +kernel
theorem dX5_store_69 : decode cX5_store 69 = .ok (.iload 5, 2) := by decide +kernel
theorem dX5_store_71 : decode cX5_store 71 = .ok (.iadd, 1) := by decide +kernel
theorem dX5_store_72 : decode cX5_store 72 = .ok (.aload_n 0, 1) := by decide +kernel
theorem dX5_store_73 : decode cX5_store 73 = .ok (.getfield 23, 3) := by decide +kernel
theorem dX5_store_76 : decode cX5_store 76 = .ok (.sipush 1024, 3) := by decide +kernel
theorem dX5_store_79 : decode cX5_store 79 = .ok (.iload_n 1, 1) := by decide +kernel
theorem dX5_store_80 : decode cX5_store 80 = .ok (.imul, 1) := by decide +kernel
theorem dX5_store_81 : decode cX5_store 81 = .ok (.iload 5, 2) := by decide +kernel
theorem dX5_store_83 : decode cX5_store 83 = .ok (.iadd, 1) := by decide +kernel
theorem dX5_store_84 : decode cX5_store 84 = .ok (.iconst 1, 1) := by decide +kernel
theorem dX5_store_85 : decode cX5_store 85 = .ok (.isub, 1) := by decide +kernel
theorem dX5_store_86 : decode cX5_store 86 = .ok (.iaload, 1) := by decide +kernel
theorem dX5_store_87 : decode cX5_store 87 = .ok (.iastore, 1) := by decide +kernel
theorem dX5_store_88 : decode cX5_store 88 = .ok (.iinc 5 (-1), 3) := by decide +kernel
theorem dX5_store_91 : decode cX5_store 91 = .ok (.goto (-66), 3) := by decide +kernel
theorem dX5_store_94 : decode cX5_store 94 = .ok (.aload_n 0, 1) := by decide +kernel
theorem dX5_store_95 : decode cX5_store 95 = .ok (.getfield 26, 3) := by decide +kernel
theorem dX5_store_98 : decode cX5_store 98 = .ok (.iload_n 1, 1) := by decide +kernel
theorem dX5_store_99 : decode cX5_store 99 = .ok (.dup2, 1) := by decide +kernel
theorem dX5_store_100 : decode cX5_store 100 = .ok (.iaload, 1) := by decide +kernel
theorem dX5_store_101 : decode cX5_store 101 = .ok (.iconst 1, 1) := by decide +kernel
theorem dX5_store_102 : decode cX5_store 102 = .ok (.iadd, 1) := by decide +kernel
theorem dX5_store_103 : decode cX5_store 103 = .ok (.iastore, 1) := by decide +kernel
theorem dX5_store_104 : decode cX5_store 104 = .ok (.aload_n 0, 1) := by decide +kernel
theorem dX5_store_105 : decode cX5_store 105 = .ok (.getfield 20, 3) := by decide +kernel
theorem dX5_store_108 : decode cX5_store 108 = .ok (.sipush 1024, 3) := by decide +kernel
theorem dX5_store_111 : decode cX5_store 111 = .ok (.iload_n 1, 1) := by decide +kernel
theorem dX5_store_112 : decode cX5_store 112 = .ok (.imul, 1) := by decide +kernel
theorem dX5_store_113 : decode cX5_store 113 = .ok (.iload 4, 2) := by decide +kernel
theorem dX5_store_115 : decode cX5_store 115 = .ok (.iadd, 1) := by decide +kernel
theorem dX5_store_116 : decode cX5_store 116 = .ok (.iload_n 2, 1) := by decide +kernel
theorem dX5_store_117 : decode cX5_store 117 = .ok (.iastore, 1) := by decide +kernel
theorem dX5_store_118 : decode cX5_store 118 = .ok (.aload_n 0, 1) := by decide +kernel
theorem dX5_store_119 : decode cX5_store 119 = .ok (.getfield 23, 3) := by decide +kernel
theorem dX5_store_122 : decode cX5_store 122 = .ok (.sipush 1024, 3) := by decide +kernel
theorem dX5_store_125 : decode cX5_store 125 = .ok (.iload_n 1, 1) := by decide +kernel
theorem dX5_store_126 : decode cX5_store 126 = .ok (.imul, 1) := by decide +kernel
theorem dX5_store_127 : decode cX5_store 127 = .ok (.iload 4, 2) := by decide +kernel
theorem dX5_store_129 : decode cX5_store 129 = .ok (.iadd, 1) := by decide +kernel
theorem dX5_store_130 : decode cX5_store 130 = .ok (.iload_n 3, 1) := by decide +kernel
theorem dX5_store_131 : decode cX5_store 131 = .ok (.iastore, 1) := by decide +kernel
theorem dX5_store_132 : decode cX5_store 132 = .ok (.return_, 1) := by decide +kernel
theorem dX5_takeOff_0 : decode cX5_takeOff 0 = .ok (.aload_n 0, 1) := by decide +kernel
theorem dX5_takeOff_1 : decode cX5_takeOff 1 = .ok (.iload_n 1, 1) := by decide +kernel
theorem dX5_takeOff_2 : decode cX5_takeOff 2 = .ok (.iload_n 2, 1) := by decide +kernel
theorem dX5_takeOff_3 : decode cX5_takeOff 3 = .ok (.invokevirtual 65, 3) := by decide +kernel
theorem dX5_takeOff_6 : decode cX5_takeOff 6 = .ok (.ifCond .ne 4, 3) := by decide +kernel
theorem dX5_takeOff_9 : decode cX5_takeOff 9 = .ok (.return_, 1) := by decide +kernel
theorem dX5_takeOff_10 : decode cX5_takeOff 10 = .ok (.aload_n 0, 1) := by decide +kernel
theorem dX5_takeOff_11 : decode cX5_takeOff 11 = .ok (.iload_n 1, 1) := by decide +kernel
theorem dX5_takeOff_12 : decode cX5_takeOff 12 = .ok (.iload_n 2, 1) := by decide +kernel
theorem dX5_takeOff_13 : decode cX5_takeOff 13 = .ok (.invokevirtual 62, 3) := by decide +kernel
theorem dX5_takeOff_16 : decode cX5_takeOff 16 = .ok (.istore_n 3, 1) := by decide +kernel
theorem dX5_takeOff_17 : decode cX5_takeOff 17 = .ok (.aload_n 0, 1) := by decide +kernel
theorem dX5_takeOff_18 : decode cX5_takeOff 18 = .ok (.getfield 26, 3) := by decide +kernel
theorem dX5_takeOff_21 : decode cX5_takeOff 21 = .ok (.iload_n 1, 1) := by decide +kernel
theorem dX5_takeOff_22 : decode cX5_takeOff 22 = .ok (.dup2, 1) := by decide +kernel
theorem dX5_takeOff_23 : decode cX5_takeOff 23 = .ok (.iaload, 1) := by decide +kernel
theorem dX5_takeOff_24 : decode cX5_takeOff 24 = .ok (.iconst 1, 1) := by decide +kernel
theorem dX5_takeOff_25 : decode cX5_takeOff 25 = .ok (.isub, 1) := by decide +kernel
theorem dX5_takeOff_26 : decode cX5_takeOff 26 = .ok (.iastore, 1) := by decide +kernel
theorem dX5_takeOff_27 : decode cX5_takeOff 27 = .ok (.iload_n 3, 1) := by decide +kernel
theorem dX5_takeOff_28 : decode cX5_takeOff 28 = .ok (.istore 4, 2) := by decide +kernel
theorem dX5_takeOff_30 : decode cX5_takeOff 30 = .ok (.iload 4, 2) := by decide +kernel
theorem dX5_takeOff_32 : decode cX5_takeOff 32 = .ok (.aload_n 0, 1) := by decide +kernel
theorem dX5_takeOff_33 : decode cX5_takeOff 33 = .ok (.getfield 26, 3) := by decide +kernel
theorem dX5_takeOff_36 : decode cX5_takeOff 36 = .ok (.iload_n 1, 1) := by decide +kernel
theorem dX5_takeOff_37 : decode cX5_takeOff 37 = .ok (.iaload, 1) := by decide +kernel
theorem dX5_takeOff_38 : decode cX5_takeOff 38 = .ok (.if_icmp .ge 65, 3) := by decide +kernel
theorem dX5_takeOff_41 : decode cX5_takeOff 41 = .ok (.aload_n 0, 1) := by decide +kernel
theorem dX5_takeOff_42 : decode cX5_takeOff 42 = .ok (.getfield 20, 3) := by decide +kernel
theorem dX5_takeOff_45 : decode cX5_takeOff 45 = .ok (.sipush 1024, 3) := by decide +kernel
theorem dX5_takeOff_48 : decode cX5_takeOff 48 = .ok (.iload_n 1, 1) := by decide +kernel
theorem dX5_takeOff_49 : decode cX5_takeOff 49 = .ok (.imul, 1) := by decide +kernel
theorem dX5_takeOff_50 : decode cX5_takeOff 50 = .ok (.iload 4, 2) := by decide +kernel
theorem dX5_takeOff_52 : decode cX5_takeOff 52 = .ok (.iadd, 1) := by decide +kernel
theorem dX5_takeOff_53 : decode cX5_takeOff 53 = .ok (.aload_n 0, 1) := by decide +kernel
theorem dX5_takeOff_54 : decode cX5_takeOff 54 = .ok (.getfield 20, 3) := by decide +kernel
theorem dX5_takeOff_57 : decode cX5_takeOff 57 = .ok (.sipush 1024, 3) := by decide +kernel
theorem dX5_takeOff_60 : decode cX5_takeOff 60 = .ok (.iload_n 1, 1) := by decide +kernel
theorem dX5_takeOff_61 : decode cX5_takeOff 61 = .ok (.imul, 1) := by decide +kernel
theorem dX5_takeOff_62 : decode cX5_takeOff 62 = .ok (.iload 4, 2) := by decide +kernel
theorem dX5_takeOff_64 : decode cX5_takeOff 64 = .ok (.iadd, 1) := by decide +kernel
theorem dX5_takeOff_65 : decode cX5_takeOff 65 = .ok (.iconst 1, 1) := by decide +kernel
theorem dX5_takeOff_66 : decode cX5_takeOff 66 = .ok (.iadd, 1) := by decide +kernel
theorem dX5_takeOff_67 : decode cX5_takeOff 67 = .ok (.iaload, 1) := by decide +kernel
theorem dX5_takeOff_68 : decode cX5_takeOff 68 = .ok (.iastore, 1) := by decide +kernel
theorem dX5_takeOff_69 : decode cX5_takeOff 69 = .ok (.aload_n 0, 1) := by decide +kernel
theorem dX5_takeOff_70 : decode cX5_takeOff 70 = .ok (.getfield 23, 3) := by decide +kernel
theorem dX5_takeOff_73 : decode cX5_takeOff 73 = .ok (.sipush 1024, 3) := by decide +kernel
theorem dX5_takeOff_76 : decode cX5_takeOff 76 = .ok (.iload_n 1, 1) := by decide +kernel
theorem dX5_takeOff_77 : decode cX5_takeOff 77 = .ok (.imul, 1) := by decide +kernel
theorem dX5_takeOff_78 : decode cX5_takeOff 78 = .ok (.iload 4, 2) := by decide +kernel
theorem dX5_takeOff_80 : decode cX5_takeOff 80 = .ok (.iadd, 1) := by decide +kernel
theorem dX5_takeOff_81 : decode cX5_takeOff 81 = .ok (.aload_n 0, 1) := by decide +kernel
theorem dX5_takeOff_82 : decode cX5_takeOff 82 = .ok (.getfield 23, 3) := by decide +kernel
theorem dX5_takeOff_85 : decode cX5_takeOff 85 = .ok (.sipush 1024, 3) := by decide +kernel
theorem dX5_takeOff_88 : decode cX5_takeOff 88 = .ok (.iload_n 1, 1) := by decide +kernel
theorem dX5_takeOff_89 : decode cX5_takeOff 89 = .ok (.imul, 1) := by decide +kernel
theorem dX5_takeOff_90 : decode cX5_takeOff 90 = .ok (.iload 4, 2) := by decide +kernel
theorem dX5_takeOff_92 : decode cX5_takeOff 92 = .ok (.iadd, 1) := by decide +kernel
theorem dX5_takeOff_93 : decode cX5_takeOff 93 = .ok (.iconst 1, 1) := by decide +kernel
theorem dX5_takeOff_94 : decode cX5_takeOff 94 = .ok (.iadd, 1) := by decide +kernel
theorem dX5_takeOff_95 : decode cX5_takeOff 95 = .ok (.iaload, 1) := by decide +kernel
theorem dX5_takeOff_96 : decode cX5_takeOff 96 = .ok (.iastore, 1) := by decide +kernel
theorem dX5_takeOff_97 : decode cX5_takeOff 97 = .ok (.iinc 4 1, 3) := by decide +kernel
theorem dX5_takeOff_100 : decode cX5_takeOff 100 = .ok (.goto (-70), 3) := by decide +kernel
theorem dX5_takeOff_103 : decode cX5_takeOff 103 = .ok (.return_, 1) := by decide +kernel
theorem dX5_writes_0 : decode cX5_writes 0 = .ok (.aload_n 0, 1) := by decide +kernel
theorem dX5_writes_1 : decode cX5_writes 1 = .ok (.getfield 9, 3) := by decide +kernel
theorem dX5_writes_4 : decode cX5_writes 4 = .ok (.ifCond .ne 10, 3) := by decide +kernel
theorem dX5_writes_7 : decode cX5_writes 7 = .ok (.aload_n 0, 1) := by decide +kernel
theorem dX5_writes_8 : decode cX5_writes 8 = .ok (.iconst 1, 1) := by decide +kernel
theorem dX5_writes_9 : decode cX5_writes 9 = .ok (.putfield 69, 3) := by decide +kernel
theorem dX5_writes_12 : decode cX5_writes 12 = .ok (.iconst 0, 1) := by decide +kernel
theorem dX5_writes_13 : decode cX5_writes 13 = .ok (.ireturn, 1) := by decide +kernel
theorem dX5_writes_14 : decode cX5_writes 14 = .ok (.aload_n 0, 1) := by decide +kernel
theorem dX5_writes_15 : decode cX5_writes 15 = .ok (.aload_n 0, 1) := by decide +kernel
theorem dX5_writes_16 : decode cX5_writes 16 = .ok (.getfield 9, 3) := by decide +kernel
theorem dX5_writes_19 : decode cX5_writes 19 = .ok (.ifCond .le 12, 3) := by decide +kernel
theorem dX5_writes_22 : decode cX5_writes 22 = .ok (.aload_n 0, 1) := by decide +kernel
theorem dX5_writes_23 : decode cX5_writes 23 = .ok (.getfield 9, 3) := by decide +kernel
theorem dX5_writes_26 : decode cX5_writes 26 = .ok (.iconst 1, 1) := by decide +kernel
theorem dX5_writes_27 : decode cX5_writes 27 = .ok (.isub, 1) := by decide +kernel
theorem dX5_writes_28 : decode cX5_writes 28 = .ok (.goto 7, 3) := by decide +kernel
theorem dX5_writes_31 : decode cX5_writes 31 = .ok (.aload_n 0, 1) := by decide +kernel
theorem dX5_writes_32 : decode cX5_writes 32 = .ok (.getfield 9, 3) := by decide +kernel
theorem dX5_writes_35 : decode cX5_writes 35 = .ok (.putfield 9, 3) := by decide +kernel
theorem dX5_writes_38 : decode cX5_writes 38 = .ok (.aload_n 0, 1) := by decide +kernel
theorem dX5_writes_39 : decode cX5_writes 39 = .ok (.dup, 1) := by decide +kernel
theorem dX5_writes_40 : decode cX5_writes 40 = .ok (.getfield 73, 3) := by decide +kernel
theorem dX5_writes_43 : decode cX5_writes 43 = .ok (.iconst 1, 1) := by decide +kernel
theorem dX5_writes_44 : decode cX5_writes 44 = .ok (.iadd, 1) := by decide +kernel
theorem dX5_writes_45 : decode cX5_writes 45 = .ok (.putfield 73, 3) := by decide +kernel
theorem dX5_writes_48 : decode cX5_writes 48 = .ok (.iconst 1, 1) := by decide +kernel
theorem dX5_writes_49 : decode cX5_writes 49 = .ok (.ireturn, 1) := by decide +kernel
theorem dX5_record_0 : decode cX5_record 0 = .ok (.aload_n 0, 1) := by decide +kernel
theorem dX5_record_1 : decode cX5_record 1 = .ok (.invokevirtual 76, 3) := by decide +kernel
theorem dX5_record_4 : decode cX5_record 4 = .ok (.istore_n 1, 1) := by decide +kernel
theorem dX5_record_5 : decode cX5_record 5 = .ok (.aload_n 0, 1) := by decide +kernel
theorem dX5_record_6 : decode cX5_record 6 = .ok (.iload_n 1, 1) := by decide +kernel
theorem dX5_record_7 : decode cX5_record 7 = .ok (.ifCond .eq 12, 3) := by decide +kernel
theorem dX5_record_10 : decode cX5_record 10 = .ok (.aload_n 0, 1) := by decide +kernel
theorem dX5_record_11 : decode cX5_record 11 = .ok (.getfield 79, 3) := by decide +kernel
theorem dX5_record_14 : decode cX5_record 14 = .ok (.iconst 1, 1) := by decide +kernel
theorem dX5_record_15 : decode cX5_record 15 = .ok (.iadd, 1) := by decide +kernel
theorem dX5_record_16 : decode cX5_record 16 = .ok (.goto 7, 3) := by decide +kernel
theorem dX5_record_19 : decode cX5_record 19 = .ok (.aload_n 0, 1) := by decide +kernel
theorem dX5_record_20 : decode cX5_record 20 = .ok (.getfield 79, 3) := by decide +kernel
theorem dX5_record_23 : decode cX5_record 23 = .ok (.putfield 79, 3) := by decide +kernel
theorem dX5_record_26 : decode cX5_record 26 = .ok (.iload_n 1, 1) := by decide +kernel
theorem dX5_record_27 : decode cX5_record 27 = .ok (.ireturn, 1) := by decide +kernel
theorem dX5_planned_0 : decode cX5_planned 0 = .ok (.iconst (-1), 1) := by decide +kernel
theorem dX5_planned_1 : decode cX5_planned 1 = .ok (.istore_n 2, 1) := by decide +kernel
theorem dX5_planned_2 : decode cX5_planned 2 = .ok (.iconst 0, 1) := by decide +kernel
theorem dX5_planned_3 : decode cX5_planned 3 = .ok (.istore_n 3, 1) := by decide +kernel
theorem dX5_planned_4 : decode cX5_planned 4 = .ok (.iload_n 3, 1) := by decide +kernel
theorem dX5_planned_5 : decode cX5_planned 5 = .ok (.aload_n 0, 1) := by decide +kernel
theorem dX5_planned_6 : decode cX5_planned 6 = .ok (.getfield 82, 3) := by decide +kernel
theorem dX5_planned_9 : decode cX5_planned 9 = .ok (.if_icmp .ge 32, 3) := by decide +kernel
theorem dX5_planned_12 : decode cX5_planned 12 = .ok (.aload_n 0, 1) := by decide +kernel
theorem dX5_planned_13 : decode cX5_planned 13 = .ok (.getfield 85, 3) := by decide +kernel
theorem dX5_planned_16 : decode cX5_planned 16 = .ok (.ifCond .eq 25, 3) := by decide +kernel
theorem dX5_planned_19 : decode cX5_planned 19 = .ok (.aload_n 0, 1) := by decide +kernel
theorem dX5_planned_20 : decode cX5_planned 20 = .ok (.getfield 29, 3) := by decide +kernel
theorem dX5_planned_23 : decode cX5_planned 23 = .ok (.iload_n 3, 1) := by decide +kernel
theorem dX5_planned_24 : decode cX5_planned 24 = .ok (.iaload, 1) := by decide +kernel
theorem dX5_planned_25 : decode cX5_planned 25 = .ok (.iload_n 1, 1) := by decide +kernel
theorem dX5_planned_26 : decode cX5_planned 26 = .ok (.if_icmp .ne 7, 3) := by decide +kernel
theorem dX5_planned_29 : decode cX5_planned 29 = .ok (.iload_n 3, 1) := by decide +kernel
theorem dX5_planned_30 : decode cX5_planned 30 = .ok (.goto 4, 3) := by decide +kernel
theorem dX5_planned_33 : decode cX5_planned 33 = .ok (.iload_n 2, 1) := by decide +kernel
theorem dX5_planned_34 : decode cX5_planned 34 = .ok (.istore_n 2, 1) := by decide +kernel
theorem dX5_planned_35 : decode cX5_planned 35 = .ok (.iinc 3 1, 3) := by decide +kernel
theorem dX5_planned_38 : decode cX5_planned 38 = .ok (.goto (-34), 3) := by decide +kernel
theorem dX5_planned_41 : decode cX5_planned 41 = .ok (.iload_n 2, 1) := by decide +kernel
theorem dX5_planned_42 : decode cX5_planned 42 = .ok (.ireturn, 1) := by decide +kernel
theorem dX5_homeOf_0 : decode cX5_homeOf 0 = .ok (.aload_n 0, 1) := by decide +kernel
theorem dX5_homeOf_1 : decode cX5_homeOf 1 = .ok (.iload_n 1, 1) := by decide +kernel
theorem dX5_homeOf_2 : decode cX5_homeOf 2 = .ok (.invokevirtual 88, 3) := by decide +kernel
theorem dX5_homeOf_5 : decode cX5_homeOf 5 = .ok (.istore_n 2, 1) := by decide +kernel
theorem dX5_homeOf_6 : decode cX5_homeOf 6 = .ok (.iload_n 2, 1) := by decide +kernel
theorem dX5_homeOf_7 : decode cX5_homeOf 7 = .ok (.ifCond .lt 32, 3) := by decide +kernel
theorem dX5_homeOf_10 : decode cX5_homeOf 10 = .ok (.aload_n 0, 1) := by decide +kernel
theorem dX5_homeOf_11 : decode cX5_homeOf 11 = .ok (.getfield 42, 3) := by decide +kernel
theorem dX5_homeOf_14 : decode cX5_homeOf 14 = .ok (.iload_n 2, 1) := by decide +kernel
theorem dX5_homeOf_15 : decode cX5_homeOf 15 = .ok (.iaload, 1) := by decide +kernel
theorem dX5_homeOf_16 : decode cX5_homeOf 16 = .ok (.iconst 1, 1) := by decide +kernel
theorem dX5_homeOf_17 : decode cX5_homeOf 17 = .ok (.if_icmp .eq 13, 3) := by decide +kernel
theorem dX5_homeOf_20 : decode cX5_homeOf 20 = .ok (.aload_n 0, 1) := by decide +kernel
theorem dX5_homeOf_21 : decode cX5_homeOf 21 = .ok (.getfield 42, 3) := by decide +kernel
theorem dX5_homeOf_24 : decode cX5_homeOf 24 = .ok (.iload_n 2, 1) := by decide +kernel
theorem dX5_homeOf_25 : decode cX5_homeOf 25 = .ok (.iaload, 1) := by decide +kernel
theorem dX5_homeOf_26 : decode cX5_homeOf 26 = .ok (.iconst 2, 1) := by decide +kernel
theorem dX5_homeOf_27 : decode cX5_homeOf 27 = .ok (.if_icmp .ne 12, 3) := by decide +kernel
theorem dX5_homeOf_30 : decode cX5_homeOf 30 = .ok (.aload_n 0, 1) := by decide +kernel
theorem dX5_homeOf_31 : decode cX5_homeOf 31 = .ok (.getfield 32, 3) := by decide +kernel
theorem dX5_homeOf_34 : decode cX5_homeOf 34 = .ok (.iload_n 2, 1) := by decide +kernel
theorem dX5_homeOf_35 : decode cX5_homeOf 35 = .ok (.iaload, 1) := by decide +kernel
theorem dX5_homeOf_36 : decode cX5_homeOf 36 = .ok (.goto 11, 3) := by decide +kernel
theorem dX5_homeOf_39 : decode cX5_homeOf 39 = .ok (.aload_n 0, 1) := by decide +kernel
theorem dX5_homeOf_40 : decode cX5_homeOf 40 = .ok (.getfield 13, 3) := by decide +kernel
theorem dX5_homeOf_43 : decode cX5_homeOf 43 = .ok (.iload_n 1, 1) := by decide +kernel
theorem dX5_homeOf_44 : decode cX5_homeOf 44 = .ok (.invokestatic 91, 3) := by decide +kernel
theorem dX5_homeOf_47 : decode cX5_homeOf 47 = .ok (.ireturn, 1) := by decide +kernel
theorem dX5_isThere_0 : decode cX5_isThere 0 = .ok (.aload_n 0, 1) := by decide +kernel
theorem dX5_isThere_1 : decode cX5_isThere 1 = .ok (.aload_n 0, 1) := by decide +kernel
theorem dX5_isThere_2 : decode cX5_isThere 2 = .ok (.iload_n 1, 1) := by decide +kernel
theorem dX5_isThere_3 : decode cX5_isThere 3 = .ok (.invokevirtual 95, 3) := by decide +kernel
theorem dX5_isThere_6 : decode cX5_isThere 6 = .ok (.iload_n 1, 1) := by decide +kernel
theorem dX5_isThere_7 : decode cX5_isThere 7 = .ok (.invokevirtual 65, 3) := by decide +kernel
theorem dX5_isThere_10 : decode cX5_isThere 10 = .ok (.ireturn, 1) := by decide +kernel
theorem dX5_there_0 : decode cX5_there 0 = .ok (.iconst 0, 1) := by decide +kernel
theorem dX5_there_1 : decode cX5_there 1 = .ok (.istore_n 1, 1) := by decide +kernel
theorem dX5_there_2 : decode cX5_there 2 = .ok (.iconst 0, 1) := by decide +kernel
theorem dX5_there_3 : decode cX5_there 3 = .ok (.istore_n 2, 1) := by decide +kernel
theorem dX5_there_4 : decode cX5_there 4 = .ok (.iload_n 2, 1) := by decide +kernel
theorem dX5_there_5 : decode cX5_there 5 = .ok (.bipush 8, 2) := by decide +kernel
theorem dX5_there_7 : decode cX5_there 7 = .ok (.if_icmp .ge 55, 3) := by decide +kernel
theorem dX5_there_10 : decode cX5_there 10 = .ok (.iconst 0, 1) := by decide +kernel
theorem dX5_there_11 : decode cX5_there 11 = .ok (.istore_n 3, 1) := by decide +kernel
theorem dX5_there_12 : decode cX5_there 12 = .ok (.iload_n 3, 1) := by decide +kernel
theorem dX5_there_13 : decode cX5_there 13 = .ok (.aload_n 0, 1) := by decide +kernel
theorem dX5_there_14 : decode cX5_there 14 = .ok (.getfield 26, 3) := by decide +kernel
theorem dX5_there_17 : decode cX5_there 17 = .ok (.iload_n 2, 1) := by decide +kernel
theorem dX5_there_18 : decode cX5_there 18 = .ok (.iaload, 1) := by decide +kernel
theorem dX5_there_19 : decode cX5_there 19 = .ok (.if_icmp .ge 37, 3) := by decide +kernel
theorem dX5_there_22 : decode cX5_there 22 = .ok (.aload_n 0, 1) := by decide +kernel
theorem dX5_there_23 : decode cX5_there 23 = .ok (.aload_n 0, 1) := by decide +kernel
theorem dX5_there_24 : decode cX5_there 24 = .ok (.getfield 20, 3) := by decide +kernel
theorem dX5_there_27 : decode cX5_there 27 = .ok (.sipush 1024, 3) := by decide +kernel
theorem dX5_there_30 : decode cX5_there 30 = .ok (.iload_n 2, 1) := by decide +kernel
theorem dX5_there_31 : decode cX5_there 31 = .ok (.imul, 1) := by decide +kernel
theorem dX5_there_32 : decode cX5_there 32 = .ok (.iload_n 3, 1) := by decide +kernel
theorem dX5_there_33 : decode cX5_there 33 = .ok (.iadd, 1) := by decide +kernel
theorem dX5_there_34 : decode cX5_there 34 = .ok (.iaload, 1) := by decide +kernel
theorem dX5_there_35 : decode cX5_there 35 = .ok (.invokevirtual 95, 3) := by decide +kernel
theorem dX5_there_38 : decode cX5_there 38 = .ok (.iload_n 2, 1) := by decide +kernel
theorem dX5_there_39 : decode cX5_there 39 = .ok (.if_icmp .ne 9, 3) := by decide +kernel
theorem dX5_there_42 : decode cX5_there 42 = .ok (.iload_n 1, 1) := by decide +kernel
theorem dX5_there_43 : decode cX5_there 43 = .ok (.iconst 1, 1) := by decide +kernel
theorem dX5_there_44 : decode cX5_there 44 = .ok (.iadd, 1) := by decide +kernel
theorem dX5_there_45 : decode cX5_there 45 = .ok (.goto 4, 3) := by decide +kernel
theorem dX5_there_48 : decode cX5_there 48 = .ok (.iload_n 1, 1) := by decide +kernel
theorem dX5_there_49 : decode cX5_there 49 = .ok (.istore_n 1, 1) := by decide +kernel
theorem dX5_there_50 : decode cX5_there 50 = .ok (.iinc 3 1, 3) := by decide +kernel
theorem dX5_there_53 : decode cX5_there 53 = .ok (.goto (-41), 3) := by decide +kernel
theorem dX5_there_56 : decode cX5_there 56 = .ok (.iinc 2 1, 3) := by decide +kernel
theorem dX5_there_59 : decode cX5_there 59 = .ok (.goto (-55), 3) := by decide +kernel
theorem dX5_there_62 : decode cX5_there 62 = .ok (.iload_n 1, 1) := by decide +kernel
theorem dX5_there_63 : decode cX5_there 63 = .ok (.ireturn, 1) := by decide +kernel
theorem dX5_isOff_0 : decode cX5_isOff 0 = .ok (.aload_n 0, 1) := by decide +kernel
theorem dX5_isOff_1 : decode cX5_isOff 1 = .ok (.aload_n 0, 1) := by decide +kernel
theorem dX5_isOff_2 : decode cX5_isOff 2 = .ok (.getfield 69, 3) := by decide +kernel
theorem dX5_isOff_5 : decode cX5_isOff 5 = .ok (.ifCond .eq 7, 3) := by decide +kernel
theorem dX5_isOff_8 : decode cX5_isOff 8 = .ok (.iconst 1, 1) := by decide +kernel
theorem dX5_isOff_9 : decode cX5_isOff 9 = .ok (.goto 4, 3) := by decide +kernel
theorem dX5_isOff_12 : decode cX5_isOff 12 = .ok (.iconst 0, 1) := by decide +kernel
theorem dX5_isOff_13 : decode cX5_isOff 13 = .ok (.putfield 45, 3) := by decide +kernel
theorem dX5_isOff_16 : decode cX5_isOff 16 = .ok (.aload_n 0, 1) := by decide +kernel
theorem dX5_isOff_17 : decode cX5_isOff 17 = .ok (.getfield 69, 3) := by decide +kernel
theorem dX5_isOff_20 : decode cX5_isOff 20 = .ok (.ireturn, 1) := by decide +kernel
theorem dX5_put_0 : decode cX5_put 0 = .ok (.aload_n 0, 1) := by decide +kernel
theorem dX5_put_1 : decode cX5_put 1 = .ok (.invokevirtual 98, 3) := by decide +kernel
theorem dX5_put_4 : decode cX5_put 4 = .ok (.ifCond .eq 5, 3) := by decide +kernel
theorem dX5_put_7 : decode cX5_put 7 = .ok (.iconst 0, 1) := by decide +kernel
theorem dX5_put_8 : decode cX5_put 8 = .ok (.ireturn, 1) := by decide +kernel
theorem dX5_put_9 : decode cX5_put 9 = .ok (.aload_n 0, 1) := by decide +kernel
theorem dX5_put_10 : decode cX5_put 10 = .ok (.iload_n 1, 1) := by decide +kernel
theorem dX5_put_11 : decode cX5_put 11 = .ok (.invokevirtual 101, 3) := by decide +kernel
theorem dX5_put_14 : decode cX5_put 14 = .ok (.istore_n 3, 1) := by decide +kernel
theorem dX5_put_15 : decode cX5_put 15 = .ok (.aload_n 0, 1) := by decide +kernel
theorem dX5_put_16 : decode cX5_put 16 = .ok (.iload_n 3, 1) := by decide +kernel
theorem dX5_put_17 : decode cX5_put 17 = .ok (.ifCond .ne 17, 3) := by decide +kernel
theorem dX5_put_20 : decode cX5_put 20 = .ok (.aload_n 0, 1) := by decide +kernel
theorem dX5_put_21 : decode cX5_put 21 = .ok (.invokevirtual 105, 3) := by decide +kernel
theorem dX5_put_24 : decode cX5_put 24 = .ok (.sipush 256, 3) := by decide +kernel
theorem dX5_put_27 : decode cX5_put 27 = .ok (.if_icmp .lt 7, 3) := by decide +kernel
theorem dX5_put_30 : decode cX5_put 30 = .ok (.iconst 1, 1) := by decide +kernel
theorem dX5_put_31 : decode cX5_put 31 = .ok (.goto 4, 3) := by decide +kernel
theorem dX5_put_34 : decode cX5_put 34 = .ok (.iconst 0, 1) := by decide +kernel
theorem dX5_put_35 : decode cX5_put 35 = .ok (.putfield 45, 3) := by decide +kernel
theorem dX5_put_38 : decode cX5_put 38 = .ok (.aload_n 0, 1) := by decide +kernel
theorem dX5_put_39 : decode cX5_put 39 = .ok (.getfield 45, 3) := by decide +kernel
theorem dX5_put_42 : decode cX5_put 42 = .ok (.ifCond .le 5, 3) := by decide +kernel
theorem dX5_put_45 : decode cX5_put 45 = .ok (.iconst 0, 1) := by decide +kernel
theorem dX5_put_46 : decode cX5_put 46 = .ok (.ireturn, 1) := by decide +kernel
theorem dX5_put_47 : decode cX5_put 47 = .ok (.aload_n 0, 1) := by decide +kernel
theorem dX5_put_48 : decode cX5_put 48 = .ok (.iload_n 1, 1) := by decide +kernel
theorem dX5_put_49 : decode cX5_put 49 = .ok (.invokevirtual 88, 3) := by decide +kernel
theorem dX5_put_52 : decode cX5_put 52 = .ok (.istore 4, 2) := by decide +kernel
theorem dX5_put_54 : decode cX5_put 54 = .ok (.aload_n 0, 1) := by decide +kernel
theorem dX5_put_55 : decode cX5_put 55 = .ok (.invokevirtual 76, 3) := by decide +kernel
theorem dX5_put_58 : decode cX5_put 58 = .ok (.ifCond .ne 6, 3) := by decide +kernel
theorem dX5_put_61 : decode cX5_put 61 = .ok (.bipush (-9), 2) := by decide +kernel
theorem dX5_put_63 : decode cX5_put 63 = .ok (.ireturn, 1) := by decide +kernel
theorem dX5_put_64 : decode cX5_put 64 = .ok (.aload_n 0, 1) := by decide +kernel
theorem dX5_put_65 : decode cX5_put 65 = .ok (.aload_n 0, 1) := by decide +kernel
theorem dX5_put_66 : decode cX5_put 66 = .ok (.iload_n 1, 1) := by decide +kernel
theorem dX5_put_67 : decode cX5_put 67 = .ok (.invokevirtual 95, 3) := by decide +kernel
theorem dX5_put_70 : decode cX5_put 70 = .ok (.iload_n 1, 1) := by decide +kernel
theorem dX5_put_71 : decode cX5_put 71 = .ok (.iload_n 2, 1) := by decide +kernel
theorem dX5_put_72 : decode cX5_put 72 = .ok (.invokevirtual 109, 3) := by decide +kernel
theorem dX5_put_75 : decode cX5_put 75 = .ok (.iload 4, 2) := by decide +kernel
theorem dX5_put_77 : decode cX5_put 77 = .ok (.ifCond .lt 37, 3) := by decide +kernel
theorem dX5_put_80 : decode cX5_put 80 = .ok (.aload_n 0, 1) := by decide +kernel
theorem dX5_put_81 : decode cX5_put 81 = .ok (.getfield 42, 3) := by decide +kernel
theorem dX5_put_84 : decode cX5_put 84 = .ok (.iload 4, 2) := by decide +kernel
theorem dX5_put_86 : decode cX5_put 86 = .ok (.iaload, 1) := by decide +kernel
theorem dX5_put_87 : decode cX5_put 87 = .ok (.iconst 2, 1) := by decide +kernel
theorem dX5_put_88 : decode cX5_put 88 = .ok (.if_icmp .ne 26, 3) := by decide +kernel
theorem dX5_put_91 : decode cX5_put 91 = .ok (.aload_n 0, 1) := by decide +kernel
theorem dX5_put_92 : decode cX5_put 92 = .ok (.invokevirtual 76, 3) := by decide +kernel
theorem dX5_put_95 : decode cX5_put 95 = .ok (.ifCond .ne 6, 3) := by decide +kernel
theorem dX5_put_98 : decode cX5_put 98 = .ok (.bipush (-9), 2) := by decide +kernel
theorem dX5_put_100 : decode cX5_put 100 = .ok (.ireturn, 1) := by decide +kernel
theorem dX5_put_101 : decode cX5_put 101 = .ok (.aload_n 0, 1) := by decide +kernel
theorem dX5_put_102 : decode cX5_put 102 = .ok (.aload_n 0, 1) := by decide +kernel
theorem dX5_put_103 : decode cX5_put 103 = .ok (.getfield 35, 3) := by decide +kernel
theorem dX5_put_106 : decode cX5_put 106 = .ok (.iload 4, 2) := by decide +kernel
theorem dX5_put_108 : decode cX5_put 108 = .ok (.iaload, 1) := by decide +kernel
theorem dX5_put_109 : decode cX5_put 109 = .ok (.iload_n 1, 1) := by decide +kernel
theorem dX5_put_110 : decode cX5_put 110 = .ok (.iload_n 2, 1) := by decide +kernel
theorem dX5_put_111 : decode cX5_put 111 = .ok (.invokevirtual 109, 3) := by decide +kernel
theorem dX5_put_114 : decode cX5_put 114 = .ok (.iload_n 3, 1) := by decide +kernel
theorem dX5_put_115 : decode cX5_put 115 = .ok (.ifCond .eq 7, 3) := by decide +kernel
theorem dX5_put_118 : decode cX5_put 118 = .ok (.iconst 0, 1) := by decide +kernel
theorem dX5_put_119 : decode cX5_put 119 = .ok (.goto 4, 3) := by decide +kernel
theorem dX5_put_122 : decode cX5_put 122 = .ok (.iconst 1, 1) := by decide +kernel
theorem dX5_put_123 : decode cX5_put 123 = .ok (.ireturn, 1) := by decide +kernel
theorem dX5_remove_0 : decode cX5_remove 0 = .ok (.aload_n 0, 1) := by decide +kernel
theorem dX5_remove_1 : decode cX5_remove 1 = .ok (.invokevirtual 98, 3) := by decide +kernel
theorem dX5_remove_4 : decode cX5_remove 4 = .ok (.ifCond .ne 11, 3) := by decide +kernel
theorem dX5_remove_7 : decode cX5_remove 7 = .ok (.aload_n 0, 1) := by decide +kernel
theorem dX5_remove_8 : decode cX5_remove 8 = .ok (.iload_n 1, 1) := by decide +kernel
theorem dX5_remove_9 : decode cX5_remove 9 = .ok (.invokevirtual 101, 3) := by decide +kernel
theorem dX5_remove_12 : decode cX5_remove 12 = .ok (.ifCond .ne 5, 3) := by decide +kernel
theorem dX5_remove_15 : decode cX5_remove 15 = .ok (.iconst 0, 1) := by decide +kernel
theorem dX5_remove_16 : decode cX5_remove 16 = .ok (.ireturn, 1) := by decide +kernel
theorem dX5_remove_17 : decode cX5_remove 17 = .ok (.aload_n 0, 1) := by decide +kernel
theorem dX5_remove_18 : decode cX5_remove 18 = .ok (.iload_n 1, 1) := by decide +kernel
theorem dX5_remove_19 : decode cX5_remove 19 = .ok (.invokevirtual 88, 3) := by decide +kernel
theorem dX5_remove_22 : decode cX5_remove 22 = .ok (.istore_n 2, 1) := by decide +kernel
theorem dX5_remove_23 : decode cX5_remove 23 = .ok (.aload_n 0, 1) := by decide +kernel
theorem dX5_remove_24 : decode cX5_remove 24 = .ok (.invokevirtual 76, 3) := by decide +kernel
theorem dX5_remove_27 : decode cX5_remove 27 = .ok (.ifCond .ne 6, 3) := by decide +kernel
theorem dX5_remove_30 : decode cX5_remove 30 = .ok (.bipush (-9), 2) := by decide +kernel
theorem dX5_remove_32 : decode cX5_remove 32 = .ok (.ireturn, 1) := by decide +kernel
theorem dX5_remove_33 : decode cX5_remove 33 = .ok (.aload_n 0, 1) := by decide +kernel
theorem dX5_remove_34 : decode cX5_remove 34 = .ok (.aload_n 0, 1) := by decide +kernel
theorem dX5_remove_35 : decode cX5_remove 35 = .ok (.iload_n 1, 1) := by decide +kernel
theorem dX5_remove_36 : decode cX5_remove 36 = .ok (.invokevirtual 95, 3) := by decide +kernel
theorem dX5_remove_39 : decode cX5_remove 39 = .ok (.iload_n 1, 1) := by decide +kernel
theorem dX5_remove_40 : decode cX5_remove 40 = .ok (.invokevirtual 113, 3) := by decide +kernel
theorem dX5_remove_43 : decode cX5_remove 43 = .ok (.iload_n 2, 1) := by decide +kernel
theorem dX5_remove_44 : decode cX5_remove 44 = .ok (.ifCond .lt 34, 3) := by decide +kernel
theorem dX5_remove_47 : decode cX5_remove 47 = .ok (.aload_n 0, 1) := by decide +kernel
theorem dX5_remove_48 : decode cX5_remove 48 = .ok (.getfield 42, 3) := by decide +kernel
theorem dX5_remove_51 : decode cX5_remove 51 = .ok (.iload_n 2, 1) := by decide +kernel
theorem dX5_remove_52 : decode cX5_remove 52 = .ok (.iaload, 1) := by decide +kernel
theorem dX5_remove_53 : decode cX5_remove 53 = .ok (.iconst 2, 1) := by decide +kernel
theorem dX5_remove_54 : decode cX5_remove 54 = .ok (.if_icmp .ne 24, 3) := by decide +kernel
theorem dX5_remove_57 : decode cX5_remove 57 = .ok (.aload_n 0, 1) := by decide +kernel
theorem dX5_remove_58 : decode cX5_remove 58 = .ok (.invokevirtual 76, 3) := by decide +kernel
theorem dX5_remove_61 : decode cX5_remove 61 = .ok (.ifCond .ne 6, 3) := by decide +kernel
theorem dX5_remove_64 : decode cX5_remove 64 = .ok (.bipush (-9), 2) := by decide +kernel
theorem dX5_remove_66 : decode cX5_remove 66 = .ok (.ireturn, 1) := by decide +kernel
theorem dX5_remove_67 : decode cX5_remove 67 = .ok (.aload_n 0, 1) := by decide +kernel
theorem dX5_remove_68 : decode cX5_remove 68 = .ok (.aload_n 0, 1) := by decide +kernel
theorem dX5_remove_69 : decode cX5_remove 69 = .ok (.getfield 35, 3) := by decide +kernel
theorem dX5_remove_72 : decode cX5_remove 72 = .ok (.iload_n 2, 1) := by decide +kernel
theorem dX5_remove_73 : decode cX5_remove 73 = .ok (.iaload, 1) := by decide +kernel
theorem dX5_remove_74 : decode cX5_remove 74 = .ok (.iload_n 1, 1) := by decide +kernel
theorem dX5_remove_75 : decode cX5_remove 75 = .ok (.invokevirtual 113, 3) := by decide +kernel
theorem dX5_remove_78 : decode cX5_remove 78 = .ok (.iconst 1, 1) := by decide +kernel
theorem dX5_remove_79 : decode cX5_remove 79 = .ok (.ireturn, 1) := by decide +kernel
theorem dX5_get_0 : decode cX5_get 0 = .ok (.aload_n 0, 1) := by decide +kernel
theorem dX5_get_1 : decode cX5_get 1 = .ok (.aload_n 0, 1) := by decide +kernel
theorem dX5_get_2 : decode cX5_get 2 = .ok (.getfield 69, 3) := by decide +kernel
theorem dX5_get_5 : decode cX5_get 5 = .ok (.ifCond .eq 7, 3) := by decide +kernel
theorem dX5_get_8 : decode cX5_get 8 = .ok (.iconst 1, 1) := by decide +kernel
theorem dX5_get_9 : decode cX5_get 9 = .ok (.goto 16, 3) := by decide +kernel
theorem dX5_get_12 : decode cX5_get 12 = .ok (.aload_n 0, 1) := by decide +kernel
theorem dX5_get_13 : decode cX5_get 13 = .ok (.iload_n 1, 1) := by decide +kernel
theorem dX5_get_14 : decode cX5_get 14 = .ok (.invokevirtual 101, 3) := by decide +kernel
theorem dX5_get_17 : decode cX5_get 17 = .ok (.ifCond .eq 7, 3) := by decide +kernel
theorem dX5_get_20 : decode cX5_get 20 = .ok (.iconst 0, 1) := by decide +kernel
theorem dX5_get_21 : decode cX5_get 21 = .ok (.goto 4, 3) := by decide +kernel
theorem dX5_get_24 : decode cX5_get 24 = .ok (.iconst 2, 1) := by decide +kernel
theorem dX5_get_25 : decode cX5_get 25 = .ok (.putfield 45, 3) := by decide +kernel
theorem dX5_get_28 : decode cX5_get 28 = .ok (.aload_n 0, 1) := by decide +kernel
theorem dX5_get_29 : decode cX5_get 29 = .ok (.getfield 45, 3) := by decide +kernel
theorem dX5_get_32 : decode cX5_get 32 = .ok (.ifCond .le 7, 3) := by decide +kernel
theorem dX5_get_35 : decode cX5_get 35 = .ok (.iconst 0, 1) := by decide +kernel
theorem dX5_get_36 : decode cX5_get 36 = .ok (.goto 13, 3) := by decide +kernel
theorem dX5_get_39 : decode cX5_get 39 = .ok (.aload_n 0, 1) := by decide +kernel
theorem dX5_get_40 : decode cX5_get 40 = .ok (.aload_n 0, 1) := by decide +kernel
theorem dX5_get_41 : decode cX5_get 41 = .ok (.iload_n 1, 1) := by decide +kernel
theorem dX5_get_42 : decode cX5_get 42 = .ok (.invokevirtual 95, 3) := by decide +kernel
theorem dX5_get_45 : decode cX5_get 45 = .ok (.iload_n 1, 1) := by decide +kernel
theorem dX5_get_46 : decode cX5_get 46 = .ok (.invokevirtual 117, 3) := by decide +kernel
theorem dX5_get_49 : decode cX5_get 49 = .ok (.ireturn, 1) := by decide +kernel
theorem dX5_begin_0 : decode cX5_begin 0 = .ok (.iconst 0, 1) := by decide +kernel
theorem dX5_begin_1 : decode cX5_begin 1 = .ok (.istore_n 1, 1) := by decide +kernel
theorem dX5_begin_2 : decode cX5_begin 2 = .ok (.iconst 0, 1) := by decide +kernel
theorem dX5_begin_3 : decode cX5_begin 3 = .ok (.istore_n 2, 1) := by decide +kernel
theorem dX5_begin_4 : decode cX5_begin 4 = .ok (.iload_n 2, 1) := by decide +kernel
theorem dX5_begin_5 : decode cX5_begin 5 = .ok (.bipush 8, 2) := by decide +kernel
theorem dX5_begin_7 : decode cX5_begin 7 = .ok (.if_icmp .ge 158, 3) := by decide +kernel
theorem dX5_begin_10 : decode cX5_begin 10 = .ok (.iconst 0, 1) := by decide +kernel
theorem dX5_begin_11 : decode cX5_begin 11 = .ok (.istore_n 3, 1) := by decide +kernel
theorem dX5_begin_12 : decode cX5_begin 12 = .ok (.iload_n 3, 1) := by decide +kernel
theorem dX5_begin_13 : decode cX5_begin 13 = .ok (.aload_n 0, 1) := by decide +kernel
theorem dX5_begin_14 : decode cX5_begin 14 = .ok (.getfield 26, 3) := by decide +kernel
theorem dX5_begin_17 : decode cX5_begin 17 = .ok (.iload_n 2, 1) := by decide +kernel
theorem dX5_begin_18 : decode cX5_begin 18 = .ok (.iaload, 1) := by decide +kernel
theorem dX5_begin_19 : decode cX5_begin 19 = .ok (.if_icmp .ge 140, 3) := by decide +kernel
theorem dX5_begin_22 : decode cX5_begin 22 = .ok (.aload_n 0, 1) := by decide +kernel
theorem dX5_begin_23 : decode cX5_begin 23 = .ok (.getfield 20, 3) := by decide +kernel
theorem dX5_begin_26 : decode cX5_begin 26 = .ok (.sipush 1024, 3) := by decide +kernel
theorem dX5_begin_29 : decode cX5_begin 29 = .ok (.iload_n 2, 1) := by decide +kernel
theorem dX5_begin_30 : decode cX5_begin 30 = .ok (.imul, 1) := by decide +kernel
theorem dX5_begin_31 : decode cX5_begin 31 = .ok (.iload_n 3, 1) := by decide +kernel
theorem dX5_begin_32 : decode cX5_begin 32 = .ok (.iadd, 1) := by decide +kernel
theorem dX5_begin_33 : decode cX5_begin 33 = .ok (.iaload, 1) := by decide +kernel
theorem dX5_begin_34 : decode cX5_begin 34 = .ok (.istore 4, 2) := by decide +kernel
theorem dX5_begin_36 : decode cX5_begin 36 = .ok (.aload_n 0, 1) := by decide +kernel
theorem dX5_begin_37 : decode cX5_begin 37 = .ok (.getfield 13, 3) := by decide +kernel
theorem dX5_begin_40 : decode cX5_begin 40 = .ok (.iload 4, 2) := by decide +kernel
theorem dX5_begin_42 : decode cX5_begin 42 = .ok (.invokestatic 91, 3) := by decide +kernel
theorem dX5_begin_45 : decode cX5_begin 45 = .ok (.iload_n 2, 1) := by decide +kernel
theorem dX5_begin_46 : decode cX5_begin 46 = .ok (.if_icmp .ne 20, 3) := by decide +kernel
theorem dX5_begin_49 : decode cX5_begin 49 = .ok (.aload_n 0, 1) := by decide +kernel
theorem dX5_begin_50 : decode cX5_begin 50 = .ok (.getfield 17, 3) := by decide +kernel
theorem dX5_begin_53 : decode cX5_begin 53 = .ok (.iload 4, 2) := by decide +kernel
theorem dX5_begin_55 : decode cX5_begin 55 = .ok (.invokestatic 91, 3) := by decide +kernel
theorem dX5_begin_58 : decode cX5_begin 58 = .ok (.iload_n 2, 1) := by decide +kernel
theorem dX5_begin_59 : decode cX5_begin 59 = .ok (.if_icmp .eq 7, 3) := by decide +kernel
theorem dX5_begin_62 : decode cX5_begin 62 = .ok (.iconst 1, 1) := by decide +kernel
theorem dX5_begin_63 : decode cX5_begin 63 = .ok (.goto 4, 3) := by decide +kernel
theorem dX5_begin_66 : decode cX5_begin 66 = .ok (.iconst 0, 1) := by decide +kernel
theorem dX5_begin_67 : decode cX5_begin 67 = .ok (.istore 5, 2) := by decide +kernel
theorem dX5_begin_69 : decode cX5_begin 69 = .ok (.iload_n 1, 1) := by decide +kernel
theorem dX5_begin_70 : decode cX5_begin 70 = .ok (.istore 6, 2) := by decide +kernel
theorem dX5_begin_72 : decode cX5_begin 72 = .ok (.iload 5, 2) := by decide +kernel
theorem dX5_begin_74 : decode cX5_begin 74 = .ok (.ifCond .eq 38, 3) := by decide +kernel
theorem dX5_begin_77 : decode cX5_begin 77 = .ok (.iload 6, 2) := by decide +kernel
theorem dX5_begin_79 : decode cX5_begin 79 = .ok (.ifCond .le 33, 3) := by decide +kernel
theorem dX5_begin_82 : decode cX5_begin 82 = .ok (.aload_n 0, 1) := by decide +kernel
theorem dX5_begin_83 : decode cX5_begin 83 = .ok (.getfield 29, 3) := by decide +kernel
theorem dX5_begin_86 : decode cX5_begin 86 = .ok (.iload 6, 2) := by decide +kernel
theorem dX5_begin_88 : decode cX5_begin 88 = .ok (.iconst 1, 1) := by decide +kernel
theorem dX5_begin_89 : decode cX5_begin 89 = .ok (.isub, 1) := by decide +kernel
theorem dX5_begin_90 : decode cX5_begin 90 = .ok (.iaload, 1) := by decide +kernel
theorem dX5_begin_91 : decode cX5_begin 91 = .ok (.iload 4, 2) := by decide +kernel
theorem dX5_begin_93 : decode cX5_begin 93 = .ok (.if_icmp .le 19, 3) := by decide +kernel
theorem dX5_begin_96 : decode cX5_begin 96 = .ok (.aload_n 0, 1) := by decide +kernel
theorem dX5_begin_97 : decode cX5_begin 97 = .ok (.iload 6, 2) := by decide +kernel
theorem dX5_begin_99 : decode cX5_begin 99 = .ok (.iconst 1, 1) := by decide +kernel
theorem dX5_begin_100 : decode cX5_begin 100 = .ok (.isub, 1) := by decide +kernel
theorem dX5_begin_101 : decode cX5_begin 101 = .ok (.iload 6, 2) := by decide +kernel
theorem dX5_begin_103 : decode cX5_begin 103 = .ok (.invokevirtual 120, 3) := by decide +kernel
theorem dX5_begin_106 : decode cX5_begin 106 = .ok (.iinc 6 (-1), 3) := by decide +kernel
theorem dX5_begin_109 : decode cX5_begin 109 = .ok (.goto (-37), 3) := by decide +kernel
theorem dX5_begin_112 : decode cX5_begin 112 = .ok (.iload 5, 2) := by decide +kernel
theorem dX5_begin_114 : decode cX5_begin 114 = .ok (.ifCond .eq 39, 3) := by decide +kernel
theorem dX5_begin_117 : decode cX5_begin 117 = .ok (.aload_n 0, 1) := by decide +kernel
theorem dX5_begin_118 : decode cX5_begin 118 = .ok (.getfield 29, 3) := by decide +kernel
theorem dX5_begin_121 : decode cX5_begin 121 = .ok (.iload 6, 2) := by decide +kernel
theorem dX5_begin_123 : decode cX5_begin 123 = .ok (.iload 4, 2) := by decide +kernel
theorem dX5_begin_125 : decode cX5_begin 125 = .ok (.iastore, 1) := by decide +kernel
theorem dX5_begin_126 : decode cX5_begin 126 = .ok (.aload_n 0, 1) := by decide +kernel
theorem dX5_begin_127 : decode cX5_begin 127 = .ok (.getfield 32, 3) := by decide +kernel
theorem dX5_begin_130 : decode cX5_begin 130 = .ok (.iload 6, 2) := by decide +kernel
theorem dX5_begin_132 : decode cX5_begin 132 = .ok (.iload_n 2, 1) := by decide +kernel
theorem dX5_begin_133 : decode cX5_begin 133 = .ok (.iastore, 1) := by decide +kernel
theorem dX5_begin_134 : decode cX5_begin 134 = .ok (.aload_n 0, 1) := by decide +kernel
theorem dX5_begin_135 : decode cX5_begin 135 = .ok (.getfield 35, 3) := by decide +kernel
theorem dX5_begin_138 : decode cX5_begin 138 = .ok (.iload 6, 2) := by decide +kernel
theorem dX5_begin_140 : decode cX5_begin 140 = .ok (.aload_n 0, 1) := by decide +kernel
theorem dX5_begin_141 : decode cX5_begin 141 = .ok (.getfield 17, 3) := by decide +kernel
theorem dX5_begin_144 : decode cX5_begin 144 = .ok (.iload 4, 2) := by decide +kernel
theorem dX5_begin_146 : decode cX5_begin 146 = .ok (.invokestatic 91, 3) := by decide +kernel
theorem dX5_begin_149 : decode cX5_begin 149 = .ok (.iastore, 1) := by decide +kernel
theorem dX5_begin_150 : decode cX5_begin 150 = .ok (.iinc 1 1, 3) := by decide +kernel
theorem dX5_begin_153 : decode cX5_begin 153 = .ok (.iinc 3 1, 3) := by decide +kernel
theorem dX5_begin_156 : decode cX5_begin 156 = .ok (.goto (-144), 3) := by decide +kernel
theorem dX5_begin_159 : decode cX5_begin 159 = .ok (.iinc 2 1, 3) := by decide +kernel
theorem dX5_begin_162 : decode cX5_begin 162 = .ok (.goto (-158), 3) := by decide +kernel
theorem dX5_begin_165 : decode cX5_begin 165 = .ok (.iconst 0, 1) := by decide +kernel
theorem dX5_begin_166 : decode cX5_begin 166 = .ok (.istore_n 2, 1) := by decide +kernel
theorem dX5_begin_167 : decode cX5_begin 167 = .ok (.iload_n 2, 1) := by decide +kernel
theorem dX5_begin_168 : decode cX5_begin 168 = .ok (.iload_n 1, 1) := by decide +kernel
theorem dX5_begin_169 : decode cX5_begin 169 = .ok (.if_icmp .ge 23, 3) := by decide +kernel
theorem dX5_begin_172 : decode cX5_begin 172 = .ok (.aload_n 0, 1) := by decide +kernel
theorem dX5_begin_173 : decode cX5_begin 173 = .ok (.getfield 38, 3) := by decide +kernel
theorem dX5_begin_176 : decode cX5_begin 176 = .ok (.iload_n 2, 1) := by decide +kernel
theorem dX5_begin_177 : decode cX5_begin 177 = .ok (.iconst 0, 1) := by decide +kernel
theorem dX5_begin_178 : decode cX5_begin 178 = .ok (.bastore, 1) := by decide +kernel
theorem dX5_begin_179 : decode cX5_begin 179 = .ok (.aload_n 0, 1) := by decide +kernel
theorem dX5_begin_180 : decode cX5_begin 180 = .ok (.getfield 42, 3) := by decide +kernel
theorem dX5_begin_183 : decode cX5_begin 183 = .ok (.iload_n 2, 1) := by decide +kernel
theorem dX5_begin_184 : decode cX5_begin 184 = .ok (.iconst 1, 1) := by decide +kernel
theorem dX5_begin_185 : decode cX5_begin 185 = .ok (.iastore, 1) := by decide +kernel
theorem dX5_begin_186 : decode cX5_begin 186 = .ok (.iinc 2 1, 3) := by decide +kernel
theorem dX5_begin_189 : decode cX5_begin 189 = .ok (.goto (-22), 3) := by decide +kernel
theorem dX5_begin_192 : decode cX5_begin 192 = .ok (.iload_n 1, 1) := by decide +kernel
theorem dX5_begin_193 : decode cX5_begin 193 = .ok (.ireturn, 1) := by decide +kernel
theorem dX5_movePlan_0 : decode cX5_movePlan 0 = .ok (.aload_n 0, 1) := by decide +kernel
theorem dX5_movePlan_1 : decode cX5_movePlan 1 = .ok (.getfield 29, 3) := by decide +kernel
theorem dX5_movePlan_4 : decode cX5_movePlan 4 = .ok (.iload_n 2, 1) := by decide +kernel
theorem dX5_movePlan_5 : decode cX5_movePlan 5 = .ok (.aload_n 0, 1) := by decide +kernel
theorem dX5_movePlan_6 : decode cX5_movePlan 6 = .ok (.getfield 29, 3) := by decide +kernel
theorem dX5_movePlan_9 : decode cX5_movePlan 9 = .ok (.iload_n 1, 1) := by decide +kernel
theorem dX5_movePlan_10 : decode cX5_movePlan 10 = .ok (.iaload, 1) := by decide +kernel
theorem dX5_movePlan_11 : decode cX5_movePlan 11 = .ok (.iastore, 1) := by decide +kernel
theorem dX5_movePlan_12 : decode cX5_movePlan 12 = .ok (.aload_n 0, 1) := by decide +kernel
theorem dX5_movePlan_13 : decode cX5_movePlan 13 = .ok (.getfield 32, 3) := by decide +kernel
theorem dX5_movePlan_16 : decode cX5_movePlan 16 = .ok (.iload_n 2, 1) := by decide +kernel
theorem dX5_movePlan_17 : decode cX5_movePlan 17 = .ok (.aload_n 0, 1) := by decide +kernel
theorem dX5_movePlan_18 : decode cX5_movePlan 18 = .ok (.getfield 32, 3) := by decide +kernel
theorem dX5_movePlan_21 : decode cX5_movePlan 21 = .ok (.iload_n 1, 1) := by decide +kernel
theorem dX5_movePlan_22 : decode cX5_movePlan 22 = .ok (.iaload, 1) := by decide +kernel
theorem dX5_movePlan_23 : decode cX5_movePlan 23 = .ok (.iastore, 1) := by decide +kernel
theorem dX5_movePlan_24 : decode cX5_movePlan 24 = .ok (.aload_n 0, 1) := by decide +kernel
theorem dX5_movePlan_25 : decode cX5_movePlan 25 = .ok (.getfield 35, 3) := by decide +kernel
theorem dX5_movePlan_28 : decode cX5_movePlan 28 = .ok (.iload_n 2, 1) := by decide +kernel
theorem dX5_movePlan_29 : decode cX5_movePlan 29 = .ok (.aload_n 0, 1) := by decide +kernel
theorem dX5_movePlan_30 : decode cX5_movePlan 30 = .ok (.getfield 35, 3) := by decide +kernel
theorem dX5_movePlan_33 : decode cX5_movePlan 33 = .ok (.iload_n 1, 1) := by decide +kernel
theorem dX5_movePlan_34 : decode cX5_movePlan 34 = .ok (.iaload, 1) := by decide +kernel
theorem dX5_movePlan_35 : decode cX5_movePlan 35 = .ok (.iastore, 1) := by decide +kernel
theorem dX5_movePlan_36 : decode cX5_movePlan 36 = .ok (.return_, 1) := by decide +kernel
theorem dX5_change_0 : decode cX5_change 0 = .ok (.aload_n 0, 1) := by decide +kernel
theorem dX5_change_1 : decode cX5_change 1 = .ok (.invokevirtual 123, 3) := by decide +kernel
theorem dX5_change_4 : decode cX5_change 4 = .ok (.ifCond .ne 6, 3) := by decide +kernel
theorem dX5_change_7 : decode cX5_change 7 = .ok (.bipush (-9), 2) := by decide +kernel
theorem dX5_change_9 : decode cX5_change 9 = .ok (.ireturn, 1) := by decide +kernel
theorem dX5_change_10 : decode cX5_change 10 = .ok (.iconst 0, 1) := by decide +kernel
theorem dX5_change_11 : decode cX5_change 11 = .ok (.istore_n 3, 1) := by decide +kernel
theorem dX5_change_12 : decode cX5_change 12 = .ok (.iload_n 3, 1) := by decide +kernel
theorem dX5_change_13 : decode cX5_change 13 = .ok (.bipush 8, 2) := by decide +kernel
theorem dX5_change_15 : decode cX5_change 15 = .ok (.if_icmp .ge 30, 3) := by decide +kernel
theorem dX5_change_18 : decode cX5_change 18 = .ok (.aload_n 0, 1) := by decide +kernel
theorem dX5_change_19 : decode cX5_change 19 = .ok (.getfield 17, 3) := by decide +kernel
theorem dX5_change_22 : decode cX5_change 22 = .ok (.iload_n 3, 1) := by decide +kernel
theorem dX5_change_23 : decode cX5_change 23 = .ok (.iload_n 3, 1) := by decide +kernel
theorem dX5_change_24 : decode cX5_change 24 = .ok (.iload_n 1, 1) := by decide +kernel
theorem dX5_change_25 : decode cX5_change 25 = .ok (.if_icmp .ne 7, 3) := by decide +kernel
theorem dX5_change_28 : decode cX5_change 28 = .ok (.iload_n 2, 1) := by decide +kernel
theorem dX5_change_29 : decode cX5_change 29 = .ok (.goto 9, 3) := by decide +kernel
theorem dX5_change_32 : decode cX5_change 32 = .ok (.aload_n 0, 1) := by decide +kernel
theorem dX5_change_33 : decode cX5_change 33 = .ok (.getfield 13, 3) := by decide +kernel
theorem dX5_change_36 : decode cX5_change 36 = .ok (.iload_n 3, 1) := by decide +kernel
theorem dX5_change_37 : decode cX5_change 37 = .ok (.iaload, 1) := by decide +kernel
theorem dX5_change_38 : decode cX5_change 38 = .ok (.iastore, 1) := by decide +kernel
theorem dX5_change_39 : decode cX5_change 39 = .ok (.iinc 3 1, 3) := by decide +kernel
theorem dX5_change_42 : decode cX5_change 42 = .ok (.goto (-30), 3) := by decide +kernel
theorem dX5_change_45 : decode cX5_change 45 = .ok (.aload_n 0, 1) := by decide +kernel
theorem dX5_change_46 : decode cX5_change 46 = .ok (.aload_n 0, 1) := by decide +kernel
theorem dX5_change_47 : decode cX5_change 47 = .ok (.invokevirtual 126, 3) := by decide +kernel
theorem dX5_change_50 : decode cX5_change 50 = .ok (.putfield 82, 3) := by decide +kernel
theorem dX5_change_53 : decode cX5_change 53 = .ok (.aload_n 0, 1) := by decide +kernel
theorem dX5_change_54 : decode cX5_change 54 = .ok (.iconst 1, 1) := by decide +kernel
theorem dX5_change_55 : decode cX5_change 55 = .ok (.putfield 85, 3) := by decide +kernel
theorem dX5_change_58 : decode cX5_change 58 = .ok (.aload_n 0, 1) := by decide +kernel
theorem dX5_change_59 : decode cX5_change 59 = .ok (.getfield 13, 3) := by decide +kernel
theorem dX5_change_62 : decode cX5_change 62 = .ok (.iload_n 1, 1) := by decide +kernel
theorem dX5_change_63 : decode cX5_change 63 = .ok (.iload_n 2, 1) := by decide +kernel
theorem dX5_change_64 : decode cX5_change 64 = .ok (.iastore, 1) := by decide +kernel
theorem dX5_change_65 : decode cX5_change 65 = .ok (.aload_n 0, 1) := by decide +kernel
theorem dX5_change_66 : decode cX5_change 66 = .ok (.getfield 82, 3) := by decide +kernel
theorem dX5_change_69 : decode cX5_change 69 = .ok (.ireturn, 1) := by decide +kernel
theorem dX5_noNode_0 : decode cX5_noNode 0 = .ok (.aload_n 0, 1) := by decide +kernel
theorem dX5_noNode_1 : decode cX5_noNode 1 = .ok (.iload_n 1, 1) := by decide +kernel
theorem dX5_noNode_2 : decode cX5_noNode 2 = .ok (.ifCond .lt 9, 3) := by decide +kernel
theorem dX5_noNode_5 : decode cX5_noNode 5 = .ok (.iload_n 1, 1) := by decide +kernel
theorem dX5_noNode_6 : decode cX5_noNode 6 = .ok (.bipush 8, 2) := by decide +kernel
theorem dX5_noNode_8 : decode cX5_noNode 8 = .ok (.if_icmp .lt 7, 3) := by decide +kernel
theorem dX5_noNode_11 : decode cX5_noNode 11 = .ok (.iconst 1, 1) := by decide +kernel
theorem dX5_noNode_12 : decode cX5_noNode 12 = .ok (.goto 4, 3) := by decide +kernel
theorem dX5_noNode_15 : decode cX5_noNode 15 = .ok (.iconst 0, 1) := by decide +kernel
theorem dX5_noNode_16 : decode cX5_noNode 16 = .ok (.putfield 45, 3) := by decide +kernel
theorem dX5_noNode_19 : decode cX5_noNode 19 = .ok (.aload_n 0, 1) := by decide +kernel
theorem dX5_noNode_20 : decode cX5_noNode 20 = .ok (.getfield 45, 3) := by decide +kernel
theorem dX5_noNode_23 : decode cX5_noNode 23 = .ok (.ifCond .le 7, 3) := by decide +kernel
theorem dX5_noNode_26 : decode cX5_noNode 26 = .ok (.iconst 1, 1) := by decide +kernel
theorem dX5_noNode_27 : decode cX5_noNode 27 = .ok (.goto 4, 3) := by decide +kernel
theorem dX5_noNode_30 : decode cX5_noNode 30 = .ok (.iconst 0, 1) := by decide +kernel
theorem dX5_noNode_31 : decode cX5_noNode 31 = .ok (.ireturn, 1) := by decide +kernel
theorem dX5_join_0 : decode cX5_join 0 = .ok (.aload_n 0, 1) := by decide +kernel
theorem dX5_join_1 : decode cX5_join 1 = .ok (.iload_n 1, 1) := by decide +kernel
theorem dX5_join_2 : decode cX5_join 2 = .ok (.invokevirtual 129, 3) := by decide +kernel
theorem dX5_join_5 : decode cX5_join 5 = .ok (.ifCond .eq 5, 3) := by decide +kernel
theorem dX5_join_8 : decode cX5_join 8 = .ok (.iconst 0, 1) := by decide +kernel
theorem dX5_join_9 : decode cX5_join 9 = .ok (.ireturn, 1) := by decide +kernel
theorem dX5_join_10 : decode cX5_join 10 = .ok (.aload_n 0, 1) := by decide +kernel
theorem dX5_join_11 : decode cX5_join 11 = .ok (.iload_n 2, 1) := by decide +kernel
theorem dX5_join_12 : decode cX5_join 12 = .ok (.iconst 1, 1) := by decide +kernel
theorem dX5_join_13 : decode cX5_join 13 = .ok (.if_icmp .lt 9, 3) := by decide +kernel
theorem dX5_join_16 : decode cX5_join 16 = .ok (.iload_n 2, 1) := by decide +kernel
theorem dX5_join_17 : decode cX5_join 17 = .ok (.bipush 16, 2) := by decide +kernel
theorem dX5_join_19 : decode cX5_join 19 = .ok (.if_icmp .le 7, 3) := by decide +kernel
theorem dX5_join_22 : decode cX5_join 22 = .ok (.iconst 2, 1) := by decide +kernel
theorem dX5_join_23 : decode cX5_join 23 = .ok (.goto 31, 3) := by decide +kernel
theorem dX5_join_26 : decode cX5_join 26 = .ok (.aload_n 0, 1) := by decide +kernel
theorem dX5_join_27 : decode cX5_join 27 = .ok (.getfield 69, 3) := by decide +kernel
theorem dX5_join_30 : decode cX5_join 30 = .ok (.ifCond .ne 19, 3) := by decide +kernel
theorem dX5_join_33 : decode cX5_join 33 = .ok (.aload_n 0, 1) := by decide +kernel
theorem dX5_join_34 : decode cX5_join 34 = .ok (.getfield 85, 3) := by decide +kernel
theorem dX5_join_37 : decode cX5_join 37 = .ok (.ifCond .ne 12, 3) := by decide +kernel
theorem dX5_join_40 : decode cX5_join 40 = .ok (.aload_n 0, 1) := by decide +kernel
theorem dX5_join_41 : decode cX5_join 41 = .ok (.getfield 13, 3) := by decide +kernel
theorem dX5_join_44 : decode cX5_join 44 = .ok (.iload_n 1, 1) := by decide +kernel
theorem dX5_join_45 : decode cX5_join 45 = .ok (.iaload, 1) := by decide +kernel
theorem dX5_join_46 : decode cX5_join 46 = .ok (.ifCond .le 7, 3) := by decide +kernel
theorem dX5_join_49 : decode cX5_join 49 = .ok (.iconst 3, 1) := by decide +kernel
theorem dX5_join_50 : decode cX5_join 50 = .ok (.goto 4, 3) := by decide +kernel
theorem dX5_join_53 : decode cX5_join 53 = .ok (.iconst 0, 1) := by decide +kernel
theorem dX5_join_54 : decode cX5_join 54 = .ok (.putfield 45, 3) := by decide +kernel
theorem dX5_join_57 : decode cX5_join 57 = .ok (.aload_n 0, 1) := by decide +kernel
theorem dX5_join_58 : decode cX5_join 58 = .ok (.getfield 45, 3) := by decide +kernel
theorem dX5_join_61 : decode cX5_join 61 = .ok (.ifCond .le 7, 3) := by decide +kernel
theorem dX5_join_64 : decode cX5_join 64 = .ok (.iconst 0, 1) := by decide +kernel
theorem dX5_join_65 : decode cX5_join 65 = .ok (.goto 9, 3) := by decide +kernel
theorem dX5_join_68 : decode cX5_join 68 = .ok (.aload_n 0, 1) := by decide +kernel
theorem dX5_join_69 : decode cX5_join 69 = .ok (.iload_n 1, 1) := by decide +kernel
theorem dX5_join_70 : decode cX5_join 70 = .ok (.iload_n 2, 1) := by decide +kernel
theorem dX5_join_71 : decode cX5_join 71 = .ok (.invokevirtual 132, 3) := by decide +kernel
theorem dX5_join_74 : decode cX5_join 74 = .ok (.ireturn, 1) := by decide +kernel
theorem dX5_memberCount_0 : decode cX5_memberCount 0 = .ok (.iconst 0, 1) := by decide +kernel
theorem dX5_memberCount_1 : decode cX5_memberCount 1 = .ok (.istore_n 1, 1) := by decide +kernel
theorem dX5_memberCount_2 : decode cX5_memberCount 2 = .ok (.iconst 0, 1) := by decide +kernel
theorem dX5_memberCount_3 : decode cX5_memberCount 3 = .ok (.istore_n 2, 1) := by decide +kernel
theorem dX5_memberCount_4 : decode cX5_memberCount 4 = .ok (.iload_n 2, 1) := by decide +kernel
theorem dX5_memberCount_5 : decode cX5_memberCount 5 = .ok (.bipush 8, 2) := by decide +kernel
theorem dX5_memberCount_7 : decode cX5_memberCount 7 = .ok (.if_icmp .ge 26, 3) := by decide +kernel
theorem dX5_memberCount_10 : decode cX5_memberCount 10 = .ok (.aload_n 0, 1) := by decide +kernel
theorem dX5_memberCount_11 : decode cX5_memberCount 11 = .ok (.getfield 13, 3) := by decide +kernel
theorem dX5_memberCount_14 : decode cX5_memberCount 14 = .ok (.iload_n 2, 1) := by decide +kernel
theorem dX5_memberCount_15 : decode cX5_memberCount 15 = .ok (.iaload, 1) := by decide +kernel
theorem dX5_memberCount_16 : decode cX5_memberCount 16 = .ok (.ifCond .le 9, 3) := by decide +kernel
theorem dX5_memberCount_19 : decode cX5_memberCount 19 = .ok (.iload_n 1, 1) := by decide +kernel
theorem dX5_memberCount_20 : decode cX5_memberCount 20 = .ok (.iconst 1, 1) := by decide +kernel
theorem dX5_memberCount_21 : decode cX5_memberCount 21 = .ok (.iadd, 1) := by decide +kernel
theorem dX5_memberCount_22 : decode cX5_memberCount 22 = .ok (.goto 4, 3) := by decide +kernel
theorem dX5_memberCount_25 : decode cX5_memberCount 25 = .ok (.iload_n 1, 1) := by decide +kernel
theorem dX5_memberCount_26 : decode cX5_memberCount 26 = .ok (.istore_n 1, 1) := by decide +kernel
theorem dX5_memberCount_27 : decode cX5_memberCount 27 = .ok (.iinc 2 1, 3) := by decide +kernel
theorem dX5_memberCount_30 : decode cX5_memberCount 30 = .ok (.goto (-26), 3) := by decide +kernel
theorem dX5_memberCount_33 : decode cX5_memberCount 33 = .ok (.iload_n 1, 1) := by decide +kernel
theorem dX5_memberCount_34 : decode cX5_memberCount 34 = .ok (.ireturn, 1) := by decide +kernel
theorem dX5_leave_0 : decode cX5_leave 0 = .ok (.aload_n 0, 1) := by decide +kernel
theorem dX5_leave_1 : decode cX5_leave 1 = .ok (.iload_n 1, 1) := by decide +kernel
theorem dX5_leave_2 : decode cX5_leave 2 = .ok (.invokevirtual 129, 3) := by decide +kernel
theorem dX5_leave_5 : decode cX5_leave 5 = .ok (.ifCond .eq 5, 3) := by decide +kernel
theorem dX5_leave_8 : decode cX5_leave 8 = .ok (.iconst 0, 1) := by decide +kernel
theorem dX5_leave_9 : decode cX5_leave 9 = .ok (.ireturn, 1) := by decide +kernel
theorem dX5_leave_10 : decode cX5_leave 10 = .ok (.aload_n 0, 1) := by decide +kernel
theorem dX5_leave_11 : decode cX5_leave 11 = .ok (.aload_n 0, 1) := by decide +kernel
theorem dX5_leave_12 : decode cX5_leave 12 = .ok (.getfield 69, 3) := by decide +kernel
theorem dX5_leave_15 : decode cX5_leave 15 = .ok (.ifCond .ne 27, 3) := by decide +kernel
theorem dX5_leave_18 : decode cX5_leave 18 = .ok (.aload_n 0, 1) := by decide +kernel
theorem dX5_leave_19 : decode cX5_leave 19 = .ok (.getfield 85, 3) := by decide +kernel
theorem dX5_leave_22 : decode cX5_leave 22 = .ok (.ifCond .ne 20, 3) := by decide +kernel
theorem dX5_leave_25 : decode cX5_leave 25 = .ok (.aload_n 0, 1) := by decide +kernel
theorem dX5_leave_26 : decode cX5_leave 26 = .ok (.getfield 13, 3) := by decide +kernel
theorem dX5_leave_29 : decode cX5_leave 29 = .ok (.iload_n 1, 1) := by decide +kernel
theorem dX5_leave_30 : decode cX5_leave 30 = .ok (.iaload, 1) := by decide +kernel
theorem dX5_leave_31 : decode cX5_leave 31 = .ok (.ifCond .eq 11, 3) := by decide +kernel
theorem dX5_leave_34 : decode cX5_leave 34 = .ok (.aload_n 0, 1) := by decide +kernel
theorem dX5_leave_35 : decode cX5_leave 35 = .ok (.invokevirtual 135, 3) := by decide +kernel
theorem dX5_leave_38 : decode cX5_leave 38 = .ok (.iconst 1, 1) := by decide +kernel
theorem dX5_leave_39 : decode cX5_leave 39 = .ok (.if_icmp .ne 7, 3) := by decide +kernel
theorem dX5_leave_42 : decode cX5_leave 42 = .ok (.iconst 2, 1) := by decide +kernel
theorem dX5_leave_43 : decode cX5_leave 43 = .ok (.goto 4, 3) := by decide +kernel
theorem dX5_leave_46 : decode cX5_leave 46 = .ok (.iconst 0, 1) := by decide +kernel
theorem dX5_leave_47 : decode cX5_leave 47 = .ok (.putfield 45, 3) := by decide +kernel
theorem dX5_leave_50 : decode cX5_leave 50 = .ok (.aload_n 0, 1) := by decide +kernel
theorem dX5_leave_51 : decode cX5_leave 51 = .ok (.getfield 45, 3) := by decide +kernel
theorem dX5_leave_54 : decode cX5_leave 54 = .ok (.ifCond .le 7, 3) := by decide +kernel
theorem dX5_leave_57 : decode cX5_leave 57 = .ok (.iconst 0, 1) := by decide +kernel
theorem dX5_leave_58 : decode cX5_leave 58 = .ok (.goto 9, 3) := by decide +kernel
theorem dX5_leave_61 : decode cX5_leave 61 = .ok (.aload_n 0, 1) := by decide +kernel
theorem dX5_leave_62 : decode cX5_leave 62 = .ok (.iload_n 1, 1) := by decide +kernel
theorem dX5_leave_63 : decode cX5_leave 63 = .ok (.iconst 0, 1) := by decide +kernel
theorem dX5_leave_64 : decode cX5_leave 64 = .ok (.invokevirtual 132, 3) := by decide +kernel
theorem dX5_leave_67 : decode cX5_leave 67 = .ok (.ireturn, 1) := by decide +kernel
theorem dX5_step_0 : decode cX5_step 0 = .ok (.aload_n 0, 1) := by decide +kernel
theorem dX5_step_1 : decode cX5_step 1 = .ok (.aload_n 0, 1) := by decide +kernel
theorem dX5_step_2 : decode cX5_step 2 = .ok (.getfield 69, 3) := by decide +kernel
theorem dX5_step_5 : decode cX5_step 5 = .ok (.ifCond .ne 10, 3) := by decide +kernel
theorem dX5_step_8 : decode cX5_step 8 = .ok (.aload_n 0, 1) := by decide +kernel
theorem dX5_step_9 : decode cX5_step 9 = .ok (.getfield 85, 3) := by decide +kernel
theorem dX5_step_12 : decode cX5_step 12 = .ok (.ifCond .ne 7, 3) := by decide +kernel
theorem dX5_step_15 : decode cX5_step 15 = .ok (.iconst 1, 1) := by decide +kernel
theorem dX5_step_16 : decode cX5_step 16 = .ok (.goto 4, 3) := by decide +kernel
theorem dX5_step_19 : decode cX5_step 19 = .ok (.iconst 0, 1) := by decide +kernel
theorem dX5_step_20 : decode cX5_step 20 = .ok (.putfield 45, 3) := by decide +kernel
theorem dX5_step_23 : decode cX5_step 23 = .ok (.aload_n 0, 1) := by decide +kernel
theorem dX5_step_24 : decode cX5_step 24 = .ok (.getfield 45, 3) := by decide +kernel
theorem dX5_step_27 : decode cX5_step 27 = .ok (.ifCond .le 5, 3) := by decide +kernel
theorem dX5_step_30 : decode cX5_step 30 = .ok (.iconst 0, 1) := by decide +kernel
theorem dX5_step_31 : decode cX5_step 31 = .ok (.ireturn, 1) := by decide +kernel
theorem dX5_step_32 : decode cX5_step 32 = .ok (.iconst 0, 1) := by decide +kernel
theorem dX5_step_33 : decode cX5_step 33 = .ok (.istore_n 1, 1) := by decide +kernel
theorem dX5_step_34 : decode cX5_step 34 = .ok (.iload_n 1, 1) := by decide +kernel
theorem dX5_step_35 : decode cX5_step 35 = .ok (.aload_n 0, 1) := by decide +kernel
theorem dX5_step_36 : decode cX5_step 36 = .ok (.getfield 82, 3) := by decide +kernel
theorem dX5_step_39 : decode cX5_step 39 = .ok (.if_icmp .ge 19, 3) := by decide +kernel
theorem dX5_step_42 : decode cX5_step 42 = .ok (.aload_n 0, 1) := by decide +kernel
theorem dX5_step_43 : decode cX5_step 43 = .ok (.getfield 42, 3) := by decide +kernel
theorem dX5_step_46 : decode cX5_step 46 = .ok (.iload_n 1, 1) := by decide +kernel
theorem dX5_step_47 : decode cX5_step 47 = .ok (.iaload, 1) := by decide +kernel
theorem dX5_step_48 : decode cX5_step 48 = .ok (.iconst 4, 1) := by decide +kernel
theorem dX5_step_49 : decode cX5_step 49 = .ok (.if_icmp .ne 9, 3) := by decide +kernel
theorem dX5_step_52 : decode cX5_step 52 = .ok (.iinc 1 1, 3) := by decide +kernel
theorem dX5_step_55 : decode cX5_step 55 = .ok (.goto (-21), 3) := by decide +kernel
theorem dX5_step_58 : decode cX5_step 58 = .ok (.iload_n 1, 1) := by decide +kernel
theorem dX5_step_59 : decode cX5_step 59 = .ok (.aload_n 0, 1) := by decide +kernel
theorem dX5_step_60 : decode cX5_step 60 = .ok (.getfield 82, 3) := by decide +kernel
theorem dX5_step_63 : decode cX5_step 63 = .ok (.if_icmp .ne 25, 3) := by decide +kernel
theorem dX5_step_66 : decode cX5_step 66 = .ok (.aload_n 0, 1) := by decide +kernel
theorem dX5_step_67 : decode cX5_step 67 = .ok (.invokevirtual 123, 3) := by decide +kernel
theorem dX5_step_70 : decode cX5_step 70 = .ok (.ifCond .ne 6, 3) := by decide +kernel
theorem dX5_step_73 : decode cX5_step 73 = .ok (.bipush (-9), 2) := by decide +kernel
theorem dX5_step_75 : decode cX5_step 75 = .ok (.ireturn, 1) := by decide +kernel
theorem dX5_step_76 : decode cX5_step 76 = .ok (.aload_n 0, 1) := by decide +kernel
theorem dX5_step_77 : decode cX5_step 77 = .ok (.iconst 0, 1) := by decide +kernel
theorem dX5_step_78 : decode cX5_step 78 = .ok (.putfield 85, 3) := by decide +kernel
theorem dX5_step_81 : decode cX5_step 81 = .ok (.aload_n 0, 1) := by decide +kernel
theorem dX5_step_82 : decode cX5_step 82 = .ok (.iconst 0, 1) := by decide +kernel
theorem dX5_step_83 : decode cX5_step 83 = .ok (.putfield 82, 3) := by decide +kernel
theorem dX5_step_86 : decode cX5_step 86 = .ok (.iconst 0, 1) := by decide +kernel
theorem dX5_step_87 : decode cX5_step 87 = .ok (.ireturn, 1) := by decide +kernel
theorem dX5_step_88 : decode cX5_step 88 = .ok (.aload_n 0, 1) := by decide +kernel
theorem dX5_step_89 : decode cX5_step 89 = .ok (.getfield 42, 3) := by decide +kernel
theorem dX5_step_92 : decode cX5_step 92 = .ok (.iload_n 1, 1) := by decide +kernel
theorem dX5_step_93 : decode cX5_step 93 = .ok (.iaload, 1) := by decide +kernel
theorem dX5_step_94 : decode cX5_step 94 = .ok (.iconst 1, 1) := by decide +kernel
theorem dX5_step_95 : decode cX5_step 95 = .ok (.if_icmp .ne 11, 3) := by decide +kernel
theorem dX5_step_98 : decode cX5_step 98 = .ok (.aload_n 0, 1) := by decide +kernel
theorem dX5_step_99 : decode cX5_step 99 = .ok (.iload_n 1, 1) := by decide +kernel
theorem dX5_step_100 : decode cX5_step 100 = .ok (.invokevirtual 138, 3) := by decide +kernel
theorem dX5_step_103 : decode cX5_step 103 = .ok (.goto 26, 3) := by decide +kernel
theorem dX5_step_106 : decode cX5_step 106 = .ok (.aload_n 0, 1) := by decide +kernel
theorem dX5_step_107 : decode cX5_step 107 = .ok (.getfield 42, 3) := by decide +kernel
theorem dX5_step_110 : decode cX5_step 110 = .ok (.iload_n 1, 1) := by decide +kernel
theorem dX5_step_111 : decode cX5_step 111 = .ok (.iaload, 1) := by decide +kernel
theorem dX5_step_112 : decode cX5_step 112 = .ok (.iconst 2, 1) := by decide +kernel
theorem dX5_step_113 : decode cX5_step 113 = .ok (.if_icmp .ne 11, 3) := by decide +kernel
theorem dX5_step_116 : decode cX5_step 116 = .ok (.aload_n 0, 1) := by decide +kernel
theorem dX5_step_117 : decode cX5_step 117 = .ok (.iload_n 1, 1) := by decide +kernel
theorem dX5_step_118 : decode cX5_step 118 = .ok (.invokevirtual 141, 3) := by decide +kernel
theorem dX5_step_121 : decode cX5_step 121 = .ok (.goto 8, 3) := by decide +kernel
theorem dX5_step_124 : decode cX5_step 124 = .ok (.aload_n 0, 1) := by decide +kernel
theorem dX5_step_125 : decode cX5_step 125 = .ok (.iload_n 1, 1) := by decide +kernel
theorem dX5_step_126 : decode cX5_step 126 = .ok (.invokevirtual 144, 3) := by decide +kernel
theorem dX5_step_129 : decode cX5_step 129 = .ok (.ireturn, 1) := by decide +kernel
theorem dX5_copy_0 : decode cX5_copy 0 = .ok (.aload_n 0, 1) := by decide +kernel
theorem dX5_copy_1 : decode cX5_copy 1 = .ok (.invokevirtual 76, 3) := by decide +kernel
theorem dX5_copy_4 : decode cX5_copy 4 = .ok (.ifCond .ne 6, 3) := by decide +kernel
theorem dX5_copy_7 : decode cX5_copy 7 = .ok (.bipush (-9), 2) := by decide +kernel
theorem dX5_copy_9 : decode cX5_copy 9 = .ok (.ireturn, 1) := by decide +kernel
theorem dX5_copy_10 : decode cX5_copy 10 = .ok (.aload_n 0, 1) := by decide +kernel
theorem dX5_copy_11 : decode cX5_copy 11 = .ok (.getfield 29, 3) := by decide +kernel
theorem dX5_copy_14 : decode cX5_copy 14 = .ok (.iload_n 1, 1) := by decide +kernel
theorem dX5_copy_15 : decode cX5_copy 15 = .ok (.iaload, 1) := by decide +kernel
theorem dX5_copy_16 : decode cX5_copy 16 = .ok (.istore_n 2, 1) := by decide +kernel
theorem dX5_copy_17 : decode cX5_copy 17 = .ok (.aload_n 0, 1) := by decide +kernel
theorem dX5_copy_18 : decode cX5_copy 18 = .ok (.aload_n 0, 1) := by decide +kernel
theorem dX5_copy_19 : decode cX5_copy 19 = .ok (.getfield 32, 3) := by decide +kernel
theorem dX5_copy_22 : decode cX5_copy 22 = .ok (.iload_n 1, 1) := by decide +kernel
theorem dX5_copy_23 : decode cX5_copy 23 = .ok (.iaload, 1) := by decide +kernel
theorem dX5_copy_24 : decode cX5_copy 24 = .ok (.iload_n 2, 1) := by decide +kernel
theorem dX5_copy_25 : decode cX5_copy 25 = .ok (.invokevirtual 65, 3) := by decide +kernel
theorem dX5_copy_28 : decode cX5_copy 28 = .ok (.ifCond .eq 28, 3) := by decide +kernel
theorem dX5_copy_31 : decode cX5_copy 31 = .ok (.aload_n 0, 1) := by decide +kernel
theorem dX5_copy_32 : decode cX5_copy 32 = .ok (.aload_n 0, 1) := by decide +kernel
theorem dX5_copy_33 : decode cX5_copy 33 = .ok (.getfield 35, 3) := by decide +kernel
theorem dX5_copy_36 : decode cX5_copy 36 = .ok (.iload_n 1, 1) := by decide +kernel
theorem dX5_copy_37 : decode cX5_copy 37 = .ok (.iaload, 1) := by decide +kernel
theorem dX5_copy_38 : decode cX5_copy 38 = .ok (.iload_n 2, 1) := by decide +kernel
theorem dX5_copy_39 : decode cX5_copy 39 = .ok (.aload_n 0, 1) := by decide +kernel
theorem dX5_copy_40 : decode cX5_copy 40 = .ok (.aload_n 0, 1) := by decide +kernel
theorem dX5_copy_41 : decode cX5_copy 41 = .ok (.getfield 32, 3) := by decide +kernel
theorem dX5_copy_44 : decode cX5_copy 44 = .ok (.iload_n 1, 1) := by decide +kernel
theorem dX5_copy_45 : decode cX5_copy 45 = .ok (.iaload, 1) := by decide +kernel
theorem dX5_copy_46 : decode cX5_copy 46 = .ok (.iload_n 2, 1) := by decide +kernel
theorem dX5_copy_47 : decode cX5_copy 47 = .ok (.invokevirtual 117, 3) := by decide +kernel
theorem dX5_copy_50 : decode cX5_copy 50 = .ok (.invokevirtual 109, 3) := by decide +kernel
theorem dX5_copy_53 : decode cX5_copy 53 = .ok (.goto 14, 3) := by decide +kernel
theorem dX5_copy_56 : decode cX5_copy 56 = .ok (.aload_n 0, 1) := by decide +kernel
theorem dX5_copy_57 : decode cX5_copy 57 = .ok (.aload_n 0, 1) := by decide +kernel
theorem dX5_copy_58 : decode cX5_copy 58 = .ok (.getfield 35, 3) := by decide +kernel
theorem dX5_copy_61 : decode cX5_copy 61 = .ok (.iload_n 1, 1) := by decide +kernel
theorem dX5_copy_62 : decode cX5_copy 62 = .ok (.iaload, 1) := by decide +kernel
theorem dX5_copy_63 : decode cX5_copy 63 = .ok (.iload_n 2, 1) := by decide +kernel
theorem dX5_copy_64 : decode cX5_copy 64 = .ok (.invokevirtual 113, 3) := by decide +kernel
theorem dX5_copy_67 : decode cX5_copy 67 = .ok (.aload_n 0, 1) := by decide +kernel
theorem dX5_copy_68 : decode cX5_copy 68 = .ok (.getfield 42, 3) := by decide +kernel
theorem dX5_copy_71 : decode cX5_copy 71 = .ok (.iload_n 1, 1) := by decide +kernel
theorem dX5_copy_72 : decode cX5_copy 72 = .ok (.iconst 2, 1) := by decide +kernel
theorem dX5_copy_73 : decode cX5_copy 73 = .ok (.iastore, 1) := by decide +kernel
theorem dX5_copy_74 : decode cX5_copy 74 = .ok (.iconst 2, 1) := by decide +kernel
theorem dX5_copy_75 : decode cX5_copy 75 = .ok (.ireturn, 1) := by decide +kernel
theorem dX5_flip_0 : decode cX5_flip 0 = .ok (.aload_n 0, 1) := by decide +kernel
theorem dX5_flip_1 : decode cX5_flip 1 = .ok (.invokevirtual 123, 3) := by decide +kernel
theorem dX5_flip_4 : decode cX5_flip 4 = .ok (.ifCond .ne 6, 3) := by decide +kernel
theorem dX5_flip_7 : decode cX5_flip 7 = .ok (.bipush (-9), 2) := by decide +kernel
theorem dX5_flip_9 : decode cX5_flip 9 = .ok (.ireturn, 1) := by decide +kernel
theorem dX5_flip_10 : decode cX5_flip 10 = .ok (.aload_n 0, 1) := by decide +kernel
theorem dX5_flip_11 : decode cX5_flip 11 = .ok (.getfield 38, 3) := by decide +kernel
theorem dX5_flip_14 : decode cX5_flip 14 = .ok (.iload_n 1, 1) := by decide +kernel
theorem dX5_flip_15 : decode cX5_flip 15 = .ok (.iconst 1, 1) := by decide +kernel
theorem dX5_flip_16 : decode cX5_flip 16 = .ok (.bastore, 1) := by decide +kernel
theorem dX5_flip_17 : decode cX5_flip 17 = .ok (.aload_n 0, 1) := by decide +kernel
theorem dX5_flip_18 : decode cX5_flip 18 = .ok (.getfield 42, 3) := by decide +kernel
theorem dX5_flip_21 : decode cX5_flip 21 = .ok (.iload_n 1, 1) := by decide +kernel
theorem dX5_flip_22 : decode cX5_flip 22 = .ok (.iconst 3, 1) := by decide +kernel
theorem dX5_flip_23 : decode cX5_flip 23 = .ok (.iastore, 1) := by decide +kernel
theorem dX5_flip_24 : decode cX5_flip 24 = .ok (.iconst 3, 1) := by decide +kernel
theorem dX5_flip_25 : decode cX5_flip 25 = .ok (.ireturn, 1) := by decide +kernel
theorem dX5_clear_0 : decode cX5_clear 0 = .ok (.aload_n 0, 1) := by decide +kernel
theorem dX5_clear_1 : decode cX5_clear 1 = .ok (.invokevirtual 76, 3) := by decide +kernel
theorem dX5_clear_4 : decode cX5_clear 4 = .ok (.ifCond .ne 6, 3) := by decide +kernel
theorem dX5_clear_7 : decode cX5_clear 7 = .ok (.bipush (-9), 2) := by decide +kernel
theorem dX5_clear_9 : decode cX5_clear 9 = .ok (.ireturn, 1) := by decide +kernel
theorem dX5_clear_10 : decode cX5_clear 10 = .ok (.aload_n 0, 1) := by decide +kernel
theorem dX5_clear_11 : decode cX5_clear 11 = .ok (.aload_n 0, 1) := by decide +kernel
theorem dX5_clear_12 : decode cX5_clear 12 = .ok (.getfield 32, 3) := by decide +kernel
theorem dX5_clear_15 : decode cX5_clear 15 = .ok (.iload_n 1, 1) := by decide +kernel
theorem dX5_clear_16 : decode cX5_clear 16 = .ok (.iaload, 1) := by decide +kernel
theorem dX5_clear_17 : decode cX5_clear 17 = .ok (.aload_n 0, 1) := by decide +kernel
theorem dX5_clear_18 : decode cX5_clear 18 = .ok (.getfield 29, 3) := by decide +kernel
theorem dX5_clear_21 : decode cX5_clear 21 = .ok (.iload_n 1, 1) := by decide +kernel
theorem dX5_clear_22 : decode cX5_clear 22 = .ok (.iaload, 1) := by decide +kernel
theorem dX5_clear_23 : decode cX5_clear 23 = .ok (.invokevirtual 113, 3) := by decide +kernel
theorem dX5_clear_26 : decode cX5_clear 26 = .ok (.aload_n 0, 1) := by decide +kernel
theorem dX5_clear_27 : decode cX5_clear 27 = .ok (.getfield 42, 3) := by decide +kernel
theorem dX5_clear_30 : decode cX5_clear 30 = .ok (.iload_n 1, 1) := by decide +kernel
theorem dX5_clear_31 : decode cX5_clear 31 = .ok (.iconst 4, 1) := by decide +kernel
theorem dX5_clear_32 : decode cX5_clear 32 = .ok (.iastore, 1) := by decide +kernel
theorem dX5_clear_33 : decode cX5_clear 33 = .ok (.iconst 4, 1) := by decide +kernel
theorem dX5_clear_34 : decode cX5_clear 34 = .ok (.ireturn, 1) := by decide +kernel
theorem dX5_fail_0 : decode cX5_fail 0 = .ok (.aload_n 0, 1) := by decide +kernel
theorem dX5_fail_1 : decode cX5_fail 1 = .ok (.iload_n 1, 1) := by decide +kernel
theorem dX5_fail_2 : decode cX5_fail 2 = .ok (.iconst (-1), 1) := by decide +kernel
theorem dX5_fail_3 : decode cX5_fail 3 = .ok (.if_icmp .ge 7, 3) := by decide +kernel
theorem dX5_fail_6 : decode cX5_fail 6 = .ok (.iconst 1, 1) := by decide +kernel
theorem dX5_fail_7 : decode cX5_fail 7 = .ok (.goto 15, 3) := by decide +kernel
theorem dX5_fail_10 : decode cX5_fail 10 = .ok (.aload_n 0, 1) := by decide +kernel
theorem dX5_fail_11 : decode cX5_fail 11 = .ok (.getfield 69, 3) := by decide +kernel
theorem dX5_fail_14 : decode cX5_fail 14 = .ok (.ifCond .eq 7, 3) := by decide +kernel
theorem dX5_fail_17 : decode cX5_fail 17 = .ok (.iconst 2, 1) := by decide +kernel
theorem dX5_fail_18 : decode cX5_fail 18 = .ok (.goto 4, 3) := by decide +kernel
theorem dX5_fail_21 : decode cX5_fail 21 = .ok (.iconst 0, 1) := by decide +kernel
theorem dX5_fail_22 : decode cX5_fail 22 = .ok (.putfield 45, 3) := by decide +kernel
theorem dX5_fail_25 : decode cX5_fail 25 = .ok (.aload_n 0, 1) := by decide +kernel
theorem dX5_fail_26 : decode cX5_fail 26 = .ok (.getfield 45, 3) := by decide +kernel
theorem dX5_fail_29 : decode cX5_fail 29 = .ok (.ifCond .ne 8, 3) := by decide +kernel
theorem dX5_fail_32 : decode cX5_fail 32 = .ok (.aload_n 0, 1) := by decide +kernel
theorem dX5_fail_33 : decode cX5_fail 33 = .ok (.iload_n 1, 1) := by decide +kernel
theorem dX5_fail_34 : decode cX5_fail 34 = .ok (.putfield 9, 3) := by decide +kernel
theorem dX5_fail_37 : decode cX5_fail 37 = .ok (.return_, 1) := by decide +kernel
theorem dX5_recover_0 : decode cX5_recover 0 = .ok (.aload_n 0, 1) := by decide +kernel
theorem dX5_recover_1 : decode cX5_recover 1 = .ok (.aload_n 0, 1) := by decide +kernel
theorem dX5_recover_2 : decode cX5_recover 2 = .ok (.getfield 69, 3) := by decide +kernel
theorem dX5_recover_5 : decode cX5_recover 5 = .ok (.ifCond .eq 7, 3) := by decide +kernel
theorem dX5_recover_8 : decode cX5_recover 8 = .ok (.iconst 0, 1) := by decide +kernel
theorem dX5_recover_9 : decode cX5_recover 9 = .ok (.goto 4, 3) := by decide +kernel
theorem dX5_recover_12 : decode cX5_recover 12 = .ok (.iconst 1, 1) := by decide +kernel
theorem dX5_recover_13 : decode cX5_recover 13 = .ok (.putfield 45, 3) := by decide +kernel
theorem dX5_recover_16 : decode cX5_recover 16 = .ok (.aload_n 0, 1) := by decide +kernel
theorem dX5_recover_17 : decode cX5_recover 17 = .ok (.getfield 45, 3) := by decide +kernel
theorem dX5_recover_20 : decode cX5_recover 20 = .ok (.ifCond .le 5, 3) := by decide +kernel
theorem dX5_recover_23 : decode cX5_recover 23 = .ok (.iconst 0, 1) := by decide +kernel
theorem dX5_recover_24 : decode cX5_recover 24 = .ok (.ireturn, 1) := by decide +kernel
theorem dX5_recover_25 : decode cX5_recover 25 = .ok (.aload_n 0, 1) := by decide +kernel
theorem dX5_recover_26 : decode cX5_recover 26 = .ok (.iconst 0, 1) := by decide +kernel
theorem dX5_recover_27 : decode cX5_recover 27 = .ok (.putfield 69, 3) := by decide +kernel
theorem dX5_recover_30 : decode cX5_recover 30 = .ok (.aload_n 0, 1) := by decide +kernel
theorem dX5_recover_31 : decode cX5_recover 31 = .ok (.iconst (-1), 1) := by decide +kernel
theorem dX5_recover_32 : decode cX5_recover 32 = .ok (.putfield 9, 3) := by decide +kernel
theorem dX5_recover_35 : decode cX5_recover 35 = .ok (.iconst 0, 1) := by decide +kernel
theorem dX5_recover_36 : decode cX5_recover 36 = .ok (.istore_n 1, 1) := by decide +kernel
theorem dX5_recover_37 : decode cX5_recover 37 = .ok (.iconst 0, 1) := by decide +kernel
theorem dX5_recover_38 : decode cX5_recover 38 = .ok (.istore_n 2, 1) := by decide +kernel
theorem dX5_recover_39 : decode cX5_recover 39 = .ok (.iload_n 2, 1) := by decide +kernel
theorem dX5_recover_40 : decode cX5_recover 40 = .ok (.aload_n 0, 1) := by decide +kernel
theorem dX5_recover_41 : decode cX5_recover 41 = .ok (.getfield 82, 3) := by decide +kernel
theorem dX5_recover_44 : decode cX5_recover 44 = .ok (.if_icmp .ge 46, 3) := by decide +kernel
theorem dX5_recover_47 : decode cX5_recover 47 = .ok (.aload_n 0, 1) := by decide +kernel
theorem dX5_recover_48 : decode cX5_recover 48 = .ok (.getfield 42, 3) := by decide +kernel
theorem dX5_recover_51 : decode cX5_recover 51 = .ok (.iload_n 2, 1) := by decide +kernel
theorem dX5_recover_52 : decode cX5_recover 52 = .ok (.aload_n 0, 1) := by decide +kernel
theorem dX5_recover_53 : decode cX5_recover 53 = .ok (.getfield 38, 3) := by decide +kernel
theorem dX5_recover_56 : decode cX5_recover 56 = .ok (.iload_n 2, 1) := by decide +kernel
theorem dX5_recover_57 : decode cX5_recover 57 = .ok (.baload, 1) := by decide +kernel
theorem dX5_recover_58 : decode cX5_recover 58 = .ok (.ifCond .eq 7, 3) := by decide +kernel
theorem dX5_recover_61 : decode cX5_recover 61 = .ok (.iconst 3, 1) := by decide +kernel
theorem dX5_recover_62 : decode cX5_recover 62 = .ok (.goto 4, 3) := by decide +kernel
theorem dX5_recover_65 : decode cX5_recover 65 = .ok (.iconst 1, 1) := by decide +kernel
theorem dX5_recover_66 : decode cX5_recover 66 = .ok (.iastore, 1) := by decide +kernel
theorem dX5_recover_67 : decode cX5_recover 67 = .ok (.aload_n 0, 1) := by decide +kernel
theorem dX5_recover_68 : decode cX5_recover 68 = .ok (.getfield 38, 3) := by decide +kernel
theorem dX5_recover_71 : decode cX5_recover 71 = .ok (.iload_n 2, 1) := by decide +kernel
theorem dX5_recover_72 : decode cX5_recover 72 = .ok (.baload, 1) := by decide +kernel
theorem dX5_recover_73 : decode cX5_recover 73 = .ok (.ifCond .eq 7, 3) := by decide +kernel
theorem dX5_recover_76 : decode cX5_recover 76 = .ok (.iload_n 1, 1) := by decide +kernel
theorem dX5_recover_77 : decode cX5_recover 77 = .ok (.goto 6, 3) := by decide +kernel
theorem dX5_recover_80 : decode cX5_recover 80 = .ok (.iload_n 1, 1) := by decide +kernel
theorem dX5_recover_81 : decode cX5_recover 81 = .ok (.iconst 1, 1) := by decide +kernel
theorem dX5_recover_82 : decode cX5_recover 82 = .ok (.iadd, 1) := by decide +kernel
theorem dX5_recover_83 : decode cX5_recover 83 = .ok (.istore_n 1, 1) := by decide +kernel
theorem dX5_recover_84 : decode cX5_recover 84 = .ok (.iinc 2 1, 3) := by decide +kernel
theorem dX5_recover_87 : decode cX5_recover 87 = .ok (.goto (-48), 3) := by decide +kernel
theorem dX5_recover_90 : decode cX5_recover 90 = .ok (.aload_n 0, 1) := by decide +kernel
theorem dX5_recover_91 : decode cX5_recover 91 = .ok (.getfield 85, 3) := by decide +kernel
theorem dX5_recover_94 : decode cX5_recover 94 = .ok (.ifCond .eq 7, 3) := by decide +kernel
theorem dX5_recover_97 : decode cX5_recover 97 = .ok (.iload_n 1, 1) := by decide +kernel
theorem dX5_recover_98 : decode cX5_recover 98 = .ok (.goto 4, 3) := by decide +kernel
theorem dX5_recover_101 : decode cX5_recover 101 = .ok (.iconst (-1), 1) := by decide +kernel
theorem dX5_recover_102 : decode cX5_recover 102 = .ok (.ireturn, 1) := by decide +kernel
theorem dX5_off_0 : decode cX5_off 0 = .ok (.aload_n 0, 1) := by decide +kernel
theorem dX5_off_1 : decode cX5_off 1 = .ok (.iconst 0, 1) := by decide +kernel
theorem dX5_off_2 : decode cX5_off 2 = .ok (.putfield 45, 3) := by decide +kernel
theorem dX5_off_5 : decode cX5_off 5 = .ok (.aload_n 0, 1) := by decide +kernel
theorem dX5_off_6 : decode cX5_off 6 = .ok (.getfield 69, 3) := by decide +kernel
theorem dX5_off_9 : decode cX5_off 9 = .ok (.ireturn, 1) := by decide +kernel
theorem dX5_owner_0 : decode cX5_owner 0 = .ok (.aload_n 0, 1) := by decide +kernel
theorem dX5_owner_1 : decode cX5_owner 1 = .ok (.invokevirtual 98, 3) := by decide +kernel
theorem dX5_owner_4 : decode cX5_owner 4 = .ok (.ifCond .eq 7, 3) := by decide +kernel
theorem dX5_owner_7 : decode cX5_owner 7 = .ok (.iconst 0, 1) := by decide +kernel
theorem dX5_owner_8 : decode cX5_owner 8 = .ok (.goto 11, 3) := by decide +kernel
theorem dX5_owner_11 : decode cX5_owner 11 = .ok (.aload_n 0, 1) := by decide +kernel
theorem dX5_owner_12 : decode cX5_owner 12 = .ok (.getfield 13, 3) := by decide +kernel
theorem dX5_owner_15 : decode cX5_owner 15 = .ok (.iload_n 1, 1) := by decide +kernel
theorem dX5_owner_16 : decode cX5_owner 16 = .ok (.invokestatic 91, 3) := by decide +kernel
theorem dX5_owner_19 : decode cX5_owner 19 = .ok (.ireturn, 1) := by decide +kernel
theorem dX5_home_0 : decode cX5_home 0 = .ok (.aload_n 0, 1) := by decide +kernel
theorem dX5_home_1 : decode cX5_home 1 = .ok (.invokevirtual 98, 3) := by decide +kernel
theorem dX5_home_4 : decode cX5_home 4 = .ok (.ifCond .eq 7, 3) := by decide +kernel
theorem dX5_home_7 : decode cX5_home 7 = .ok (.iconst 0, 1) := by decide +kernel
theorem dX5_home_8 : decode cX5_home 8 = .ok (.goto 8, 3) := by decide +kernel
theorem dX5_home_11 : decode cX5_home 11 = .ok (.aload_n 0, 1) := by decide +kernel
theorem dX5_home_12 : decode cX5_home 12 = .ok (.iload_n 1, 1) := by decide +kernel
theorem dX5_home_13 : decode cX5_home 13 = .ok (.invokevirtual 95, 3) := by decide +kernel
theorem dX5_home_16 : decode cX5_home 16 = .ok (.ireturn, 1) := by decide +kernel
theorem dX5_state_0 : decode cX5_state 0 = .ok (.aload_n 0, 1) := by decide +kernel
theorem dX5_state_1 : decode cX5_state 1 = .ok (.invokevirtual 98, 3) := by decide +kernel
theorem dX5_state_4 : decode cX5_state 4 = .ok (.ifCond .eq 5, 3) := by decide +kernel
theorem dX5_state_7 : decode cX5_state 7 = .ok (.iconst 0, 1) := by decide +kernel
theorem dX5_state_8 : decode cX5_state 8 = .ok (.ireturn, 1) := by decide +kernel
theorem dX5_state_9 : decode cX5_state 9 = .ok (.aload_n 0, 1) := by decide +kernel
theorem dX5_state_10 : decode cX5_state 10 = .ok (.iload_n 1, 1) := by decide +kernel
theorem dX5_state_11 : decode cX5_state 11 = .ok (.invokevirtual 88, 3) := by decide +kernel
theorem dX5_state_14 : decode cX5_state 14 = .ok (.istore_n 2, 1) := by decide +kernel
theorem dX5_state_15 : decode cX5_state 15 = .ok (.iload_n 2, 1) := by decide +kernel
theorem dX5_state_16 : decode cX5_state 16 = .ok (.ifCond .ge 7, 3) := by decide +kernel
theorem dX5_state_19 : decode cX5_state 19 = .ok (.iconst 0, 1) := by decide +kernel
theorem dX5_state_20 : decode cX5_state 20 = .ok (.goto 9, 3) := by decide +kernel
theorem dX5_state_23 : decode cX5_state 23 = .ok (.aload_n 0, 1) := by decide +kernel
theorem dX5_state_24 : decode cX5_state 24 = .ok (.getfield 42, 3) := by decide +kernel
theorem dX5_state_27 : decode cX5_state 27 = .ok (.iload_n 2, 1) := by decide +kernel
theorem dX5_state_28 : decode cX5_state 28 = .ok (.iaload, 1) := by decide +kernel
theorem dX5_state_29 : decode cX5_state 29 = .ok (.ireturn, 1) := by decide +kernel
theorem dX5_holds_0 : decode cX5_holds 0 = .ok (.aload_n 0, 1) := by decide +kernel
theorem dX5_holds_1 : decode cX5_holds 1 = .ok (.iload_n 1, 1) := by decide +kernel
theorem dX5_holds_2 : decode cX5_holds 2 = .ok (.invokevirtual 129, 3) := by decide +kernel
theorem dX5_holds_5 : decode cX5_holds 5 = .ok (.ifCond .ne 16, 3) := by decide +kernel
theorem dX5_holds_8 : decode cX5_holds 8 = .ok (.aload_n 0, 1) := by decide +kernel
theorem dX5_holds_9 : decode cX5_holds 9 = .ok (.iload_n 1, 1) := by decide +kernel
theorem dX5_holds_10 : decode cX5_holds 10 = .ok (.iload_n 2, 1) := by decide +kernel
theorem dX5_holds_11 : decode cX5_holds 11 = .ok (.invokevirtual 65, 3) := by decide +kernel
theorem dX5_holds_14 : decode cX5_holds 14 = .ok (.ifCond .eq 7, 3) := by decide +kernel
theorem dX5_holds_17 : decode cX5_holds 17 = .ok (.iconst 1, 1) := by decide +kernel
theorem dX5_holds_18 : decode cX5_holds 18 = .ok (.goto 4, 3) := by decide +kernel
theorem dX5_holds_21 : decode cX5_holds 21 = .ok (.iconst 0, 1) := by decide +kernel
theorem dX5_holds_22 : decode cX5_holds 22 = .ok (.ireturn, 1) := by decide +kernel
theorem dX5_size_0 : decode cX5_size 0 = .ok (.aload_n 0, 1) := by decide +kernel
theorem dX5_size_1 : decode cX5_size 1 = .ok (.iload_n 1, 1) := by decide +kernel
theorem dX5_size_2 : decode cX5_size 2 = .ok (.invokevirtual 129, 3) := by decide +kernel
theorem dX5_size_5 : decode cX5_size 5 = .ok (.ifCond .eq 7, 3) := by decide +kernel
theorem dX5_size_8 : decode cX5_size 8 = .ok (.iconst 0, 1) := by decide +kernel
theorem dX5_size_9 : decode cX5_size 9 = .ok (.goto 9, 3) := by decide +kernel
theorem dX5_size_12 : decode cX5_size 12 = .ok (.aload_n 0, 1) := by decide +kernel
theorem dX5_size_13 : decode cX5_size 13 = .ok (.getfield 26, 3) := by decide +kernel
theorem dX5_size_16 : decode cX5_size 16 = .ok (.iload_n 1, 1) := by decide +kernel
theorem dX5_size_17 : decode cX5_size 17 = .ok (.iaload, 1) := by decide +kernel
theorem dX5_size_18 : decode cX5_size 18 = .ok (.ireturn, 1) := by decide +kernel
theorem dX5_key_0 : decode cX5_key 0 = .ok (.aload_n 0, 1) := by decide +kernel
theorem dX5_key_1 : decode cX5_key 1 = .ok (.iload_n 1, 1) := by decide +kernel
theorem dX5_key_2 : decode cX5_key 2 = .ok (.ifCond .lt 23, 3) := by decide +kernel
theorem dX5_key_5 : decode cX5_key 5 = .ok (.iload_n 1, 1) := by decide +kernel
theorem dX5_key_6 : decode cX5_key 6 = .ok (.bipush 8, 2) := by decide +kernel
theorem dX5_key_8 : decode cX5_key 8 = .ok (.if_icmp .ge 17, 3) := by decide +kernel
theorem dX5_key_11 : decode cX5_key 11 = .ok (.iload_n 2, 1) := by decide +kernel
theorem dX5_key_12 : decode cX5_key 12 = .ok (.ifCond .lt 13, 3) := by decide +kernel
theorem dX5_key_15 : decode cX5_key 15 = .ok (.iload_n 2, 1) := by decide +kernel
theorem dX5_key_16 : decode cX5_key 16 = .ok (.aload_n 0, 1) := by decide +kernel
theorem dX5_key_17 : decode cX5_key 17 = .ok (.getfield 26, 3) := by decide +kernel
theorem dX5_key_20 : decode cX5_key 20 = .ok (.iload_n 1, 1) := by decide +kernel
theorem dX5_key_21 : decode cX5_key 21 = .ok (.iaload, 1) := by decide +kernel
theorem dX5_key_22 : decode cX5_key 22 = .ok (.if_icmp .lt 7, 3) := by decide +kernel
theorem dX5_key_25 : decode cX5_key 25 = .ok (.iconst 1, 1) := by decide +kernel
theorem dX5_key_26 : decode cX5_key 26 = .ok (.goto 4, 3) := by decide +kernel
theorem dX5_key_29 : decode cX5_key 29 = .ok (.iconst 0, 1) := by decide +kernel
theorem dX5_key_30 : decode cX5_key 30 = .ok (.putfield 45, 3) := by decide +kernel
theorem dX5_key_33 : decode cX5_key 33 = .ok (.aload_n 0, 1) := by decide +kernel
theorem dX5_key_34 : decode cX5_key 34 = .ok (.getfield 45, 3) := by decide +kernel
theorem dX5_key_37 : decode cX5_key 37 = .ok (.ifCond .le 7, 3) := by decide +kernel
theorem dX5_key_40 : decode cX5_key 40 = .ok (.iconst 0, 1) := by decide +kernel
theorem dX5_key_41 : decode cX5_key 41 = .ok (.goto 15, 3) := by decide +kernel
theorem dX5_key_44 : decode cX5_key 44 = .ok (.aload_n 0, 1) := by decide +kernel
theorem dX5_key_45 : decode cX5_key 45 = .ok (.getfield 20, 3) := by decide +kernel
theorem dX5_key_48 : decode cX5_key 48 = .ok (.sipush 1024, 3) := by decide +kernel
theorem dX5_key_51 : decode cX5_key 51 = .ok (.iload_n 1, 1) := by decide +kernel
theorem dX5_key_52 : decode cX5_key 52 = .ok (.imul, 1) := by decide +kernel
theorem dX5_key_53 : decode cX5_key 53 = .ok (.iload_n 2, 1) := by decide +kernel
theorem dX5_key_54 : decode cX5_key 54 = .ok (.iadd, 1) := by decide +kernel
theorem dX5_key_55 : decode cX5_key 55 = .ok (.iaload, 1) := by decide +kernel
theorem dX5_key_56 : decode cX5_key 56 = .ok (.ireturn, 1) := by decide +kernel
theorem dX5_points_0 : decode cX5_points 0 = .ok (.aload_n 0, 1) := by decide +kernel
theorem dX5_points_1 : decode cX5_points 1 = .ok (.iload_n 1, 1) := by decide +kernel
theorem dX5_points_2 : decode cX5_points 2 = .ok (.ifCond .lt 9, 3) := by decide +kernel
theorem dX5_points_5 : decode cX5_points 5 = .ok (.iload_n 1, 1) := by decide +kernel
theorem dX5_points_6 : decode cX5_points 6 = .ok (.bipush 8, 2) := by decide +kernel
theorem dX5_points_8 : decode cX5_points 8 = .ok (.if_icmp .lt 7, 3) := by decide +kernel
theorem dX5_points_11 : decode cX5_points 11 = .ok (.iconst 1, 1) := by decide +kernel
theorem dX5_points_12 : decode cX5_points 12 = .ok (.goto 15, 3) := by decide +kernel
theorem dX5_points_15 : decode cX5_points 15 = .ok (.aload_n 0, 1) := by decide +kernel
theorem dX5_points_16 : decode cX5_points 16 = .ok (.getfield 69, 3) := by decide +kernel
theorem dX5_points_19 : decode cX5_points 19 = .ok (.ifCond .eq 7, 3) := by decide +kernel
theorem dX5_points_22 : decode cX5_points 22 = .ok (.iconst 2, 1) := by decide +kernel
theorem dX5_points_23 : decode cX5_points 23 = .ok (.goto 4, 3) := by decide +kernel
theorem dX5_points_26 : decode cX5_points 26 = .ok (.iconst 0, 1) := by decide +kernel
theorem dX5_points_27 : decode cX5_points 27 = .ok (.putfield 45, 3) := by decide +kernel
theorem dX5_points_30 : decode cX5_points 30 = .ok (.aload_n 0, 1) := by decide +kernel
theorem dX5_points_31 : decode cX5_points 31 = .ok (.getfield 45, 3) := by decide +kernel
theorem dX5_points_34 : decode cX5_points 34 = .ok (.ifCond .le 7, 3) := by decide +kernel
theorem dX5_points_37 : decode cX5_points 37 = .ok (.iconst 0, 1) := by decide +kernel
theorem dX5_points_38 : decode cX5_points 38 = .ok (.goto 9, 3) := by decide +kernel
theorem dX5_points_41 : decode cX5_points 41 = .ok (.aload_n 0, 1) := by decide +kernel
theorem dX5_points_42 : decode cX5_points 42 = .ok (.getfield 13, 3) := by decide +kernel
theorem dX5_points_45 : decode cX5_points 45 = .ok (.iload_n 1, 1) := by decide +kernel
theorem dX5_points_46 : decode cX5_points 46 = .ok (.iaload, 1) := by decide +kernel
theorem dX5_points_47 : decode cX5_points 47 = .ok (.ireturn, 1) := by decide +kernel
theorem dX5_still_0 : decode cX5_still 0 = .ok (.iconst 0, 1) := by decide +kernel
theorem dX5_still_1 : decode cX5_still 1 = .ok (.istore_n 2, 1) := by decide +kernel
theorem dX5_still_2 : decode cX5_still 2 = .ok (.iconst 0, 1) := by decide +kernel
theorem dX5_still_3 : decode cX5_still 3 = .ok (.istore_n 3, 1) := by decide +kernel
theorem dX5_still_4 : decode cX5_still 4 = .ok (.iload_n 3, 1) := by decide +kernel
theorem dX5_still_5 : decode cX5_still 5 = .ok (.aload_n 0, 1) := by decide +kernel
theorem dX5_still_6 : decode cX5_still 6 = .ok (.getfield 82, 3) := by decide +kernel
theorem dX5_still_9 : decode cX5_still 9 = .ok (.if_icmp .ge 37, 3) := by decide +kernel
theorem dX5_still_12 : decode cX5_still 12 = .ok (.aload_n 0, 1) := by decide +kernel
theorem dX5_still_13 : decode cX5_still 13 = .ok (.getfield 42, 3) := by decide +kernel
theorem dX5_still_16 : decode cX5_still 16 = .ok (.iload_n 3, 1) := by decide +kernel
theorem dX5_still_17 : decode cX5_still 17 = .ok (.iaload, 1) := by decide +kernel
theorem dX5_still_18 : decode cX5_still 18 = .ok (.iload_n 1, 1) := by decide +kernel
theorem dX5_still_19 : decode cX5_still 19 = .ok (.if_icmp .lt 19, 3) := by decide +kernel
theorem dX5_still_22 : decode cX5_still 22 = .ok (.aload_n 0, 1) := by decide +kernel
theorem dX5_still_23 : decode cX5_still 23 = .ok (.getfield 42, 3) := by decide +kernel
theorem dX5_still_26 : decode cX5_still 26 = .ok (.iload_n 3, 1) := by decide +kernel
theorem dX5_still_27 : decode cX5_still 27 = .ok (.iaload, 1) := by decide +kernel
theorem dX5_still_28 : decode cX5_still 28 = .ok (.iconst 4, 1) := by decide +kernel
theorem dX5_still_29 : decode cX5_still 29 = .ok (.if_icmp .eq 9, 3) := by decide +kernel
theorem dX5_still_32 : decode cX5_still 32 = .ok (.iload_n 2, 1) := by decide +kernel
theorem dX5_still_33 : decode cX5_still 33 = .ok (.iconst 1, 1) := by decide +kernel
theorem dX5_still_34 : decode cX5_still 34 = .ok (.iadd, 1) := by decide +kernel
theorem dX5_still_35 : decode cX5_still 35 = .ok (.goto 4, 3) := by decide +kernel
theorem dX5_still_38 : decode cX5_still 38 = .ok (.iload_n 2, 1) := by decide +kernel
theorem dX5_still_39 : decode cX5_still 39 = .ok (.istore_n 2, 1) := by decide +kernel
theorem dX5_still_40 : decode cX5_still 40 = .ok (.iinc 3 1, 3) := by decide +kernel
theorem dX5_still_43 : decode cX5_still 43 = .ok (.goto (-39), 3) := by decide +kernel
theorem dX5_still_46 : decode cX5_still 46 = .ok (.iload_n 2, 1) := by decide +kernel
theorem dX5_still_47 : decode cX5_still 47 = .ok (.ireturn, 1) := by decide +kernel
theorem dX5_count_0 : decode cX5_count 0 = .ok (.aload_n 0, 1) := by decide +kernel
theorem dX5_count_1 : decode cX5_count 1 = .ok (.iload_n 1, 1) := by decide +kernel
theorem dX5_count_2 : decode cX5_count 2 = .ok (.ifCond .lt 8, 3) := by decide +kernel
theorem dX5_count_5 : decode cX5_count 5 = .ok (.iload_n 1, 1) := by decide +kernel
theorem dX5_count_6 : decode cX5_count 6 = .ok (.iconst 2, 1) := by decide +kernel
theorem dX5_count_7 : decode cX5_count 7 = .ok (.if_icmp .le 7, 3) := by decide +kernel
theorem dX5_count_10 : decode cX5_count 10 = .ok (.iconst 1, 1) := by decide +kernel
theorem dX5_count_11 : decode cX5_count 11 = .ok (.goto 15, 3) := by decide +kernel
theorem dX5_count_14 : decode cX5_count 14 = .ok (.aload_n 0, 1) := by decide +kernel
theorem dX5_count_15 : decode cX5_count 15 = .ok (.getfield 69, 3) := by decide +kernel
theorem dX5_count_18 : decode cX5_count 18 = .ok (.ifCond .eq 7, 3) := by decide +kernel
theorem dX5_count_21 : decode cX5_count 21 = .ok (.iconst 2, 1) := by decide +kernel
theorem dX5_count_22 : decode cX5_count 22 = .ok (.goto 4, 3) := by decide +kernel
theorem dX5_count_25 : decode cX5_count 25 = .ok (.iconst 0, 1) := by decide +kernel
theorem dX5_count_26 : decode cX5_count 26 = .ok (.putfield 45, 3) := by decide +kernel
theorem dX5_count_29 : decode cX5_count 29 = .ok (.aload_n 0, 1) := by decide +kernel
theorem dX5_count_30 : decode cX5_count 30 = .ok (.getfield 45, 3) := by decide +kernel
theorem dX5_count_33 : decode cX5_count 33 = .ok (.ifCond .le 5, 3) := by decide +kernel
theorem dX5_count_36 : decode cX5_count 36 = .ok (.iconst 0, 1) := by decide +kernel
theorem dX5_count_37 : decode cX5_count 37 = .ok (.ireturn, 1) := by decide +kernel
theorem dX5_count_38 : decode cX5_count 38 = .ok (.iload_n 1, 1) := by decide +kernel
theorem dX5_count_39 : decode cX5_count 39 = .ok (.ifCond .ne 10, 3) := by decide +kernel
theorem dX5_count_42 : decode cX5_count 42 = .ok (.aload_n 0, 1) := by decide +kernel
theorem dX5_count_43 : decode cX5_count 43 = .ok (.invokevirtual 105, 3) := by decide +kernel
theorem dX5_count_46 : decode cX5_count 46 = .ok (.goto 32, 3) := by decide +kernel
theorem dX5_count_49 : decode cX5_count 49 = .ok (.aload_n 0, 1) := by decide +kernel
theorem dX5_count_50 : decode cX5_count 50 = .ok (.getfield 85, 3) := by decide +kernel
theorem dX5_count_53 : decode cX5_count 53 = .ok (.ifCond .ne 7, 3) := by decide +kernel
theorem dX5_count_56 : decode cX5_count 56 = .ok (.iconst (-1), 1) := by decide +kernel
theorem dX5_count_57 : decode cX5_count 57 = .ok (.goto 21, 3) := by decide +kernel
theorem dX5_count_60 : decode cX5_count 60 = .ok (.iload_n 1, 1) := by decide +kernel
theorem dX5_count_61 : decode cX5_count 61 = .ok (.iconst 1, 1) := by decide +kernel
theorem dX5_count_62 : decode cX5_count 62 = .ok (.if_icmp .ne 11, 3) := by decide +kernel
theorem dX5_count_65 : decode cX5_count 65 = .ok (.aload_n 0, 1) := by decide +kernel
theorem dX5_count_66 : decode cX5_count 66 = .ok (.iconst 1, 1) := by decide +kernel
theorem dX5_count_67 : decode cX5_count 67 = .ok (.invokevirtual 147, 3) := by decide +kernel
theorem dX5_count_70 : decode cX5_count 70 = .ok (.goto 8, 3) := by decide +kernel
theorem dX5_count_73 : decode cX5_count 73 = .ok (.aload_n 0, 1) := by decide +kernel
theorem dX5_count_74 : decode cX5_count 74 = .ok (.iconst 3, 1) := by decide +kernel
theorem dX5_count_75 : decode cX5_count 75 = .ok (.invokevirtual 147, 3) := by decide +kernel
theorem dX5_count_78 : decode cX5_count 78 = .ok (.ireturn, 1) := by decide +kernel
theorem dX5_written_0 : decode cX5_written 0 = .ok (.aload_n 0, 1) := by decide +kernel
theorem dX5_written_1 : decode cX5_written 1 = .ok (.iconst 0, 1) := by decide +kernel
theorem dX5_written_2 : decode cX5_written 2 = .ok (.putfield 45, 3) := by decide +kernel
theorem dX5_written_5 : decode cX5_written 5 = .ok (.iload_n 1, 1) := by decide +kernel
theorem dX5_written_6 : decode cX5_written 6 = .ok (.ifCond .eq 10, 3) := by decide +kernel
theorem dX5_written_9 : decode cX5_written 9 = .ok (.aload_n 0, 1) := by decide +kernel
theorem dX5_written_10 : decode cX5_written 10 = .ok (.getfield 79, 3) := by decide +kernel
theorem dX5_written_13 : decode cX5_written 13 = .ok (.goto 7, 3) := by decide +kernel
theorem dX5_written_16 : decode cX5_written 16 = .ok (.aload_n 0, 1) := by decide +kernel
theorem dX5_written_17 : decode cX5_written 17 = .ok (.getfield 73, 3) := by decide +kernel
theorem dX5_written_20 : decode cX5_written 20 = .ok (.ireturn, 1) := by decide +kernel
theorem dX5_behind_0 : decode cX5_behind 0 = .ok (.iconst (-1), 1) := by decide +kernel
theorem dX5_behind_1 : decode cX5_behind 1 = .ok (.istore_n 2, 1) := by decide +kernel
theorem dX5_behind_2 : decode cX5_behind 2 = .ok (.iconst 0, 1) := by decide +kernel
theorem dX5_behind_3 : decode cX5_behind 3 = .ok (.istore_n 3, 1) := by decide +kernel
theorem dX5_behind_4 : decode cX5_behind 4 = .ok (.iconst 0, 1) := by decide +kernel
theorem dX5_behind_5 : decode cX5_behind 5 = .ok (.istore 4, 2) := by decide +kernel
theorem dX5_behind_7 : decode cX5_behind 7 = .ok (.iload 4, 2) := by decide +kernel
theorem dX5_behind_9 : decode cX5_behind 9 = .ok (.bipush 8, 2) := by decide +kernel
theorem dX5_behind_11 : decode cX5_behind 11 = .ok (.if_icmp .ge 71, 3) := by decide +kernel
theorem dX5_behind_14 : decode cX5_behind 14 = .ok (.iconst 0, 1) := by decide +kernel
theorem dX5_behind_15 : decode cX5_behind 15 = .ok (.istore 5, 2) := by decide +kernel
theorem dX5_behind_17 : decode cX5_behind 17 = .ok (.iload 5, 2) := by decide +kernel
theorem dX5_behind_19 : decode cX5_behind 19 = .ok (.aload_n 0, 1) := by decide +kernel
theorem dX5_behind_20 : decode cX5_behind 20 = .ok (.getfield 13, 3) := by decide +kernel
theorem dX5_behind_23 : decode cX5_behind 23 = .ok (.iload 4, 2) := by decide +kernel
theorem dX5_behind_25 : decode cX5_behind 25 = .ok (.iaload, 1) := by decide +kernel
theorem dX5_behind_26 : decode cX5_behind 26 = .ok (.if_icmp .ge 50, 3) := by decide +kernel
theorem dX5_behind_29 : decode cX5_behind 29 = .ok (.iload 4, 2) := by decide +kernel
theorem dX5_behind_31 : decode cX5_behind 31 = .ok (.iload 5, 2) := by decide +kernel
theorem dX5_behind_33 : decode cX5_behind 33 = .ok (.invokestatic 58, 3) := by decide +kernel
theorem dX5_behind_36 : decode cX5_behind 36 = .ok (.istore 6, 2) := by decide +kernel
theorem dX5_behind_38 : decode cX5_behind 38 = .ok (.iload 6, 2) := by decide +kernel
theorem dX5_behind_40 : decode cX5_behind 40 = .ok (.iload_n 1, 1) := by decide +kernel
theorem dX5_behind_41 : decode cX5_behind 41 = .ok (.if_icmp .ge 14, 3) := by decide +kernel
theorem dX5_behind_44 : decode cX5_behind 44 = .ok (.iload 6, 2) := by decide +kernel
theorem dX5_behind_46 : decode cX5_behind 46 = .ok (.iload_n 2, 1) := by decide +kernel
theorem dX5_behind_47 : decode cX5_behind 47 = .ok (.if_icmp .le 8, 3) := by decide +kernel
theorem dX5_behind_50 : decode cX5_behind 50 = .ok (.iload 6, 2) := by decide +kernel
theorem dX5_behind_52 : decode cX5_behind 52 = .ok (.goto 4, 3) := by decide +kernel
theorem dX5_behind_55 : decode cX5_behind 55 = .ok (.iload_n 2, 1) := by decide +kernel
theorem dX5_behind_56 : decode cX5_behind 56 = .ok (.istore_n 2, 1) := by decide +kernel
theorem dX5_behind_57 : decode cX5_behind 57 = .ok (.iload 6, 2) := by decide +kernel
theorem dX5_behind_59 : decode cX5_behind 59 = .ok (.iload_n 3, 1) := by decide +kernel
theorem dX5_behind_60 : decode cX5_behind 60 = .ok (.if_icmp .le 8, 3) := by decide +kernel
theorem dX5_behind_63 : decode cX5_behind 63 = .ok (.iload 6, 2) := by decide +kernel
theorem dX5_behind_65 : decode cX5_behind 65 = .ok (.goto 4, 3) := by decide +kernel
theorem dX5_behind_68 : decode cX5_behind 68 = .ok (.iload_n 3, 1) := by decide +kernel
theorem dX5_behind_69 : decode cX5_behind 69 = .ok (.istore_n 3, 1) := by decide +kernel
theorem dX5_behind_70 : decode cX5_behind 70 = .ok (.iinc 5 1, 3) := by decide +kernel
theorem dX5_behind_73 : decode cX5_behind 73 = .ok (.goto (-56), 3) := by decide +kernel
theorem dX5_behind_76 : decode cX5_behind 76 = .ok (.iinc 4 1, 3) := by decide +kernel
theorem dX5_behind_79 : decode cX5_behind 79 = .ok (.goto (-72), 3) := by decide +kernel
theorem dX5_behind_82 : decode cX5_behind 82 = .ok (.iload_n 2, 1) := by decide +kernel
theorem dX5_behind_83 : decode cX5_behind 83 = .ok (.ifCond .lt 11, 3) := by decide +kernel
theorem dX5_behind_86 : decode cX5_behind 86 = .ok (.iload_n 1, 1) := by decide +kernel
theorem dX5_behind_87 : decode cX5_behind 87 = .ok (.i2l, 1) := by decide +kernel
theorem dX5_behind_88 : decode cX5_behind 88 = .ok (.iload_n 2, 1) := by decide +kernel
theorem dX5_behind_89 : decode cX5_behind 89 = .ok (.i2l, 1) := by decide +kernel
theorem dX5_behind_90 : decode cX5_behind 90 = .ok (.lsub, 1) := by decide +kernel
theorem dX5_behind_91 : decode cX5_behind 91 = .ok (.goto 12, 3) := by decide +kernel
theorem dX5_behind_94 : decode cX5_behind 94 = .ok (.iload_n 1, 1) := by decide +kernel
theorem dX5_behind_95 : decode cX5_behind 95 = .ok (.i2l, 1) := by decide +kernel
theorem dX5_behind_96 : decode cX5_behind 96 = .ok (.ldc2_w 150, 3) := by decide +kernel
theorem dX5_behind_99 : decode cX5_behind 99 = .ok (.ladd, 1) := by decide +kernel
theorem dX5_behind_100 : decode cX5_behind 100 = .ok (.iload_n 3, 1) := by decide +kernel
theorem dX5_behind_101 : decode cX5_behind 101 = .ok (.i2l, 1) := by decide +kernel
theorem dX5_behind_102 : decode cX5_behind 102 = .ok (.lsub, 1) := by decide +kernel
theorem dX5_behind_103 : decode cX5_behind 103 = .ok (.lreturn, 1) := by decide +kernel
theorem dX5_isFirst_0 : decode cX5_isFirst 0 = .ok (.iconst 1, 1) := by decide +kernel
theorem dX5_isFirst_1 : decode cX5_isFirst 1 = .ok (.istore_n 3, 1) := by decide +kernel
theorem dX5_isFirst_2 : decode cX5_isFirst 2 = .ok (.iconst 0, 1) := by decide +kernel
theorem dX5_isFirst_3 : decode cX5_isFirst 3 = .ok (.istore 4, 2) := by decide +kernel
theorem dX5_isFirst_5 : decode cX5_isFirst 5 = .ok (.iload 4, 2) := by decide +kernel
theorem dX5_isFirst_7 : decode cX5_isFirst 7 = .ok (.iload_n 1, 1) := by decide +kernel
theorem dX5_isFirst_8 : decode cX5_isFirst 8 = .ok (.if_icmp .gt 67, 3) := by decide +kernel
theorem dX5_isFirst_11 : decode cX5_isFirst 11 = .ok (.iconst 0, 1) := by decide +kernel
theorem dX5_isFirst_12 : decode cX5_isFirst 12 = .ok (.istore 5, 2) := by decide +kernel
theorem dX5_isFirst_14 : decode cX5_isFirst 14 = .ok (.iload 5, 2) := by decide +kernel
theorem dX5_isFirst_16 : decode cX5_isFirst 16 = .ok (.aload_n 0, 1) := by decide +kernel
theorem dX5_isFirst_17 : decode cX5_isFirst 17 = .ok (.getfield 13, 3) := by decide +kernel
theorem dX5_isFirst_20 : decode cX5_isFirst 20 = .ok (.iload 4, 2) := by decide +kernel
theorem dX5_isFirst_22 : decode cX5_isFirst 22 = .ok (.iaload, 1) := by decide +kernel
theorem dX5_isFirst_23 : decode cX5_isFirst 23 = .ok (.if_icmp .ge 46, 3) := by decide +kernel
theorem dX5_isFirst_26 : decode cX5_isFirst 26 = .ok (.iload 4, 2) := by decide +kernel
theorem dX5_isFirst_28 : decode cX5_isFirst 28 = .ok (.iload_n 1, 1) := by decide +kernel
theorem dX5_isFirst_29 : decode cX5_isFirst 29 = .ok (.if_icmp .lt 9, 3) := by decide +kernel
theorem dX5_isFirst_32 : decode cX5_isFirst 32 = .ok (.iload 5, 2) := by decide +kernel
theorem dX5_isFirst_34 : decode cX5_isFirst 34 = .ok (.iload_n 2, 1) := by decide +kernel
theorem dX5_isFirst_35 : decode cX5_isFirst 35 = .ok (.if_icmp .ge 34, 3) := by decide +kernel
theorem dX5_isFirst_38 : decode cX5_isFirst 38 = .ok (.iload_n 3, 1) := by decide +kernel
theorem dX5_isFirst_39 : decode cX5_isFirst 39 = .ok (.ifCond .eq 22, 3) := by decide +kernel
theorem dX5_isFirst_42 : decode cX5_isFirst 42 = .ok (.iload 4, 2) := by decide +kernel
theorem dX5_isFirst_44 : decode cX5_isFirst 44 = .ok (.iload 5, 2) := by decide +kernel
theorem dX5_isFirst_46 : decode cX5_isFirst 46 = .ok (.invokestatic 58, 3) := by decide +kernel
theorem dX5_isFirst_49 : decode cX5_isFirst 49 = .ok (.iload_n 1, 1) := by decide +kernel
theorem dX5_isFirst_50 : decode cX5_isFirst 50 = .ok (.iload_n 2, 1) := by decide +kernel
theorem dX5_isFirst_51 : decode cX5_isFirst 51 = .ok (.invokestatic 58, 3) := by decide +kernel
theorem dX5_isFirst_54 : decode cX5_isFirst 54 = .ok (.if_icmp .eq 7, 3) := by decide +kernel
theorem dX5_isFirst_57 : decode cX5_isFirst 57 = .ok (.iconst 1, 1) := by decide +kernel
theorem dX5_isFirst_58 : decode cX5_isFirst 58 = .ok (.goto 4, 3) := by decide +kernel
theorem dX5_isFirst_61 : decode cX5_isFirst 61 = .ok (.iconst 0, 1) := by decide +kernel
theorem dX5_isFirst_62 : decode cX5_isFirst 62 = .ok (.istore_n 3, 1) := by decide +kernel
theorem dX5_isFirst_63 : decode cX5_isFirst 63 = .ok (.iinc 5 1, 3) := by decide +kernel
theorem dX5_isFirst_66 : decode cX5_isFirst 66 = .ok (.goto (-52), 3) := by decide +kernel
theorem dX5_isFirst_69 : decode cX5_isFirst 69 = .ok (.iinc 4 1, 3) := by decide +kernel
theorem dX5_isFirst_72 : decode cX5_isFirst 72 = .ok (.goto (-67), 3) := by decide +kernel
theorem dX5_isFirst_75 : decode cX5_isFirst 75 = .ok (.iload_n 3, 1) := by decide +kernel
theorem dX5_isFirst_76 : decode cX5_isFirst 76 = .ok (.ireturn, 1) := by decide +kernel
theorem dX5_share_0 : decode cX5_share 0 = .ok (.aload_n 0, 1) := by decide +kernel
theorem dX5_share_1 : decode cX5_share 1 = .ok (.iload_n 1, 1) := by decide +kernel
theorem dX5_share_2 : decode cX5_share 2 = .ok (.ifCond .lt 9, 3) := by decide +kernel
theorem dX5_share_5 : decode cX5_share 5 = .ok (.iload_n 1, 1) := by decide +kernel
theorem dX5_share_6 : decode cX5_share 6 = .ok (.bipush 8, 2) := by decide +kernel
theorem dX5_share_8 : decode cX5_share 8 = .ok (.if_icmp .lt 7, 3) := by decide +kernel
theorem dX5_share_11 : decode cX5_share 11 = .ok (.iconst 1, 1) := by decide +kernel
theorem dX5_share_12 : decode cX5_share 12 = .ok (.goto 15, 3) := by decide +kernel
theorem dX5_share_15 : decode cX5_share 15 = .ok (.aload_n 0, 1) := by decide +kernel
theorem dX5_share_16 : decode cX5_share 16 = .ok (.getfield 69, 3) := by decide +kernel
theorem dX5_share_19 : decode cX5_share 19 = .ok (.ifCond .eq 7, 3) := by decide +kernel
theorem dX5_share_22 : decode cX5_share 22 = .ok (.iconst 2, 1) := by decide +kernel
theorem dX5_share_23 : decode cX5_share 23 = .ok (.goto 4, 3) := by decide +kernel
theorem dX5_share_26 : decode cX5_share 26 = .ok (.iconst 0, 1) := by decide +kernel
theorem dX5_share_27 : decode cX5_share 27 = .ok (.putfield 45, 3) := by decide +kernel
theorem dX5_share_30 : decode cX5_share 30 = .ok (.lconst 0, 1) := by decide +kernel
theorem dX5_share_31 : decode cX5_share 31 = .ok (.lstore_n 2, 1) := by decide +kernel
theorem dX5_share_32 : decode cX5_share 32 = .ok (.iconst 0, 1) := by decide +kernel
theorem dX5_share_33 : decode cX5_share 33 = .ok (.istore 4, 2) := by decide +kernel
theorem dX5_share_35 : decode cX5_share 35 = .ok (.aload_n 0, 1) := by decide +kernel
theorem dX5_share_36 : decode cX5_share 36 = .ok (.getfield 45, 3) := by decide +kernel
theorem dX5_share_39 : decode cX5_share 39 = .ok (.ifCond .ne 47, 3) := by decide +kernel
theorem dX5_share_42 : decode cX5_share 42 = .ok (.iload 4, 2) := by decide +kernel
theorem dX5_share_44 : decode cX5_share 44 = .ok (.aload_n 0, 1) := by decide +kernel
theorem dX5_share_45 : decode cX5_share 45 = .ok (.getfield 13, 3) := by decide +kernel
theorem dX5_share_48 : decode cX5_share 48 = .ok (.iload_n 1, 1) := by decide +kernel
theorem dX5_share_49 : decode cX5_share 49 = .ok (.iaload, 1) := by decide +kernel
theorem dX5_share_50 : decode cX5_share 50 = .ok (.if_icmp .ge 36, 3) := by decide +kernel
theorem dX5_share_53 : decode cX5_share 53 = .ok (.aload_n 0, 1) := by decide +kernel
theorem dX5_share_54 : decode cX5_share 54 = .ok (.iload_n 1, 1) := by decide +kernel
theorem dX5_share_55 : decode cX5_share 55 = .ok (.iload 4, 2) := by decide +kernel
theorem dX5_share_57 : decode cX5_share 57 = .ok (.invokevirtual 152, 3) := by decide +kernel
theorem dX5_share_60 : decode cX5_share 60 = .ok (.ifCond .eq 18, 3) := by decide +kernel
theorem dX5_share_63 : decode cX5_share 63 = .ok (.lload_n 2, 1) := by decide +kernel
theorem dX5_share_64 : decode cX5_share 64 = .ok (.aload_n 0, 1) := by decide +kernel
theorem dX5_share_65 : decode cX5_share 65 = .ok (.iload_n 1, 1) := by decide +kernel
theorem dX5_share_66 : decode cX5_share 66 = .ok (.iload 4, 2) := by decide +kernel
theorem dX5_share_68 : decode cX5_share 68 = .ok (.invokestatic 58, 3) := by decide +kernel
theorem dX5_share_71 : decode cX5_share 71 = .ok (.invokevirtual 155, 3) := by decide +kernel
theorem dX5_share_74 : decode cX5_share 74 = .ok (.ladd, 1) := by decide +kernel
theorem dX5_share_75 : decode cX5_share 75 = .ok (.goto 4, 3) := by decide +kernel
theorem dX5_share_78 : decode cX5_share 78 = .ok (.lload_n 2, 1) := by decide +kernel
theorem dX5_share_79 : decode cX5_share 79 = .ok (.lstore_n 2, 1) := by decide +kernel
theorem dX5_share_80 : decode cX5_share 80 = .ok (.iinc 4 1, 3) := by decide +kernel
theorem dX5_share_83 : decode cX5_share 83 = .ok (.goto (-48), 3) := by decide +kernel
theorem dX5_share_86 : decode cX5_share 86 = .ok (.lload_n 2, 1) := by decide +kernel
theorem dX5_share_87 : decode cX5_share 87 = .ok (.lreturn, 1) := by decide +kernel
