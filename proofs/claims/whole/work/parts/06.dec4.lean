theorem dX4_init_0 : decode cX4_init 0 = .ok (.aload_n 0, 1) := by decide +kernel
theorem dX4_init_1 : decode cX4_init 1 = .ok (.invokespecial 1, 3) := by decide +kernel
theorem dX4_init_4 : decode cX4_init 4 = .ok (.iconst 1, 1) := by decide +kernel
theorem dX4_init_5 : decode cX4_init 5 = .ok (.bipush 8, 2) := by decide +kernel
theorem dX4_init_7 : decode cX4_init 7 = .ok (.iload_n 1, 1) := by decide +kernel
theorem dX4_init_8 : decode cX4_init 8 = .ok (.invokestatic 9, 3) := by decide +kernel
theorem dX4_init_11 : decode cX4_init 11 = .ok (.invokestatic 15, 3) := by decide +kernel
theorem dX4_init_14 : decode cX4_init 14 = .ok (.istore_n 3, 1) := by decide +kernel
theorem dX4_init_15 : decode cX4_init 15 = .ok (.iconst 1, 1) := by decide +kernel
theorem dX4_init_16 : decode cX4_init 16 = .ok (.bipush 16, 2) := by decide +kernel
theorem dX4_init_18 : decode cX4_init 18 = .ok (.iload_n 2, 1) := by decide +kernel
theorem dX4_init_19 : decode cX4_init 19 = .ok (.invokestatic 9, 3) := by decide +kernel
theorem dX4_init_22 : decode cX4_init 22 = .ok (.invokestatic 15, 3) := by decide +kernel
theorem dX4_init_25 : decode cX4_init 25 = .ok (.istore 4, 2) := by decide +kernel
theorem dX4_init_27 : decode cX4_init 27 = .ok (.aload_n 0, 1) := by decide +kernel
theorem dX4_init_28 : decode cX4_init 28 = .ok (.new 18, 3) := by decide +kernel
theorem dX4_init_31 : decode cX4_init 31 = .ok (.dup, 1) := by decide +kernel
theorem dX4_init_32 : decode cX4_init 32 = .ok (.invokespecial 20, 3) := by decide +kernel
theorem dX4_init_35 : decode cX4_init 35 = .ok (.putfield 21, 3) := by decide +kernel
theorem dX4_init_38 : decode cX4_init 38 = .ok (.aload_n 0, 1) := by decide +kernel
theorem dX4_init_39 : decode cX4_init 39 = .ok (.bipush 8, 2) := by decide +kernel
theorem dX4_init_41 : decode cX4_init 41 = .ok (.anewarray 25, 3) := by decide +kernel
theorem dX4_init_44 : decode cX4_init 44 = .ok (.putfield 27, 3) := by decide +kernel
theorem dX4_init_47 : decode cX4_init 47 = .ok (.aload_n 0, 1) := by decide +kernel
theorem dX4_init_48 : decode cX4_init 48 = .ok (.new 31, 3) := by decide +kernel
theorem dX4_init_51 : decode cX4_init 51 = .ok (.dup, 1) := by decide +kernel
theorem dX4_init_52 : decode cX4_init 52 = .ok (.invokespecial 33, 3) := by decide +kernel
theorem dX4_init_55 : decode cX4_init 55 = .ok (.putfield 34, 3) := by decide +kernel
theorem dX4_init_58 : decode cX4_init 58 = .ok (.aload_n 0, 1) := by decide +kernel
theorem dX4_init_59 : decode cX4_init 59 = .ok (.new 38, 3) := by decide +kernel
theorem dX4_init_62 : decode cX4_init 62 = .ok (.dup, 1) := by decide +kernel
theorem dX4_init_63 : decode cX4_init 63 = .ok (.invokespecial 40, 3) := by decide +kernel
theorem dX4_init_66 : decode cX4_init 66 = .ok (.putfield 41, 3) := by decide +kernel
theorem dX4_init_69 : decode cX4_init 69 = .ok (.iconst 0, 1) := by decide +kernel
theorem dX4_init_70 : decode cX4_init 70 = .ok (.istore 5, 2) := by decide +kernel
theorem dX4_init_72 : decode cX4_init 72 = .ok (.iload 5, 2) := by decide +kernel
theorem dX4_init_74 : decode cX4_init 74 = .ok (.bipush 8, 2) := by decide +kernel
theorem dX4_init_76 : decode cX4_init 76 = .ok (.if_icmp .ge 23, 3) := by decide +kernel
theorem dX4_init_79 : decode cX4_init 79 = .ok (.aload_n 0, 1) := by decide +kernel
theorem dX4_init_80 : decode cX4_init 80 = .ok (.getfield 27, 3) := by decide +kernel
theorem dX4_init_83 : decode cX4_init 83 = .ok (.iload 5, 2) := by decide +kernel
theorem dX4_init_85 : decode cX4_init 85 = .ok (.new 25, 3) := by decide +kernel
theorem dX4_init_88 : decode cX4_init 88 = .ok (.dup, 1) := by decide +kernel
theorem dX4_init_89 : decode cX4_init 89 = .ok (.invokespecial 45, 3) := by decide +kernel
theorem dX4_init_92 : decode cX4_init 92 = .ok (.aastore, 1) := by decide +kernel
theorem dX4_init_93 : decode cX4_init 93 = .ok (.iinc 5 1, 3) := by decide +kernel
theorem dX4_init_96 : decode cX4_init 96 = .ok (.goto (-24), 3) := by decide +kernel
theorem dX4_init_99 : decode cX4_init 99 = .ok (.iconst 0, 1) := by decide +kernel
theorem dX4_init_100 : decode cX4_init 100 = .ok (.istore 5, 2) := by decide +kernel
theorem dX4_init_102 : decode cX4_init 102 = .ok (.iload 5, 2) := by decide +kernel
theorem dX4_init_104 : decode cX4_init 104 = .ok (.iload_n 3, 1) := by decide +kernel
theorem dX4_init_105 : decode cX4_init 105 = .ok (.if_icmp .ge 20, 3) := by decide +kernel
theorem dX4_init_108 : decode cX4_init 108 = .ok (.aload_n 0, 1) := by decide +kernel
theorem dX4_init_109 : decode cX4_init 109 = .ok (.getfield 21, 3) := by decide +kernel
theorem dX4_init_112 : decode cX4_init 112 = .ok (.iload 5, 2) := by decide +kernel
theorem dX4_init_114 : decode cX4_init 114 = .ok (.iload 4, 2) := by decide +kernel
theorem dX4_init_116 : decode cX4_init 116 = .ok (.invokevirtual 46, 3) := by decide +kernel
theorem dX4_init_119 : decode cX4_init 119 = .ok (.iinc 5 1, 3) := by decide +kernel
theorem dX4_init_122 : decode cX4_init 122 = .ok (.goto (-20), 3) := by decide +kernel
theorem dX4_init_125 : decode cX4_init 125 = .ok (.return_, 1) := by decide +kernel
theorem dX4_put_0 : decode cX4_put 0 = .ok (.aload_n 0, 1) := by decide +kernel
theorem dX4_put_1 : decode cX4_put 1 = .ok (.invokevirtual 50, 3) := by decide +kernel
theorem dX4_put_4 : decode cX4_put 4 = .ok (.aload_n 0, 1) := by decide +kernel
theorem dX4_put_5 : decode cX4_put 5 = .ok (.getfield 34, 3) := by decide +kernel
theorem dX4_put_8 : decode cX4_put 8 = .ok (.iload_n 1, 1) := by decide +kernel
theorem dX4_put_9 : decode cX4_put 9 = .ok (.invokevirtual 53, 3) := by decide +kernel
theorem dX4_put_12 : decode cX4_put 12 = .ok (.istore_n 3, 1) := by decide +kernel
theorem dX4_put_13 : decode cX4_put 13 = .ok (.aload_n 0, 1) := by decide +kernel
theorem dX4_put_14 : decode cX4_put 14 = .ok (.getfield 27, 3) := by decide +kernel
theorem dX4_put_17 : decode cX4_put 17 = .ok (.aload_n 0, 1) := by decide +kernel
theorem dX4_put_18 : decode cX4_put 18 = .ok (.iload_n 3, 1) := by decide +kernel
theorem dX4_put_19 : decode cX4_put 19 = .ok (.iload_n 1, 1) := by decide +kernel
theorem dX4_put_20 : decode cX4_put 20 = .ok (.invokevirtual 57, 3) := by decide +kernel
theorem dX4_put_23 : decode cX4_put 23 = .ok (.aaload, 1) := by decide +kernel
theorem dX4_put_24 : decode cX4_put 24 = .ok (.astore 4, 2) := by decide +kernel
theorem dX4_put_26 : decode cX4_put 26 = .ok (.aload 4, 2) := by decide +kernel
theorem dX4_put_28 : decode cX4_put 28 = .ok (.iload_n 1, 1) := by decide +kernel
theorem dX4_put_29 : decode cX4_put 29 = .ok (.invokevirtual 60, 3) := by decide +kernel
theorem dX4_put_32 : decode cX4_put 32 = .ok (.ifCond .ne 7, 3) := by decide +kernel
theorem dX4_put_35 : decode cX4_put 35 = .ok (.iconst 1, 1) := by decide +kernel
theorem dX4_put_36 : decode cX4_put 36 = .ok (.goto 4, 3) := by decide +kernel
theorem dX4_put_39 : decode cX4_put 39 = .ok (.iconst 0, 1) := by decide +kernel
theorem dX4_put_40 : decode cX4_put 40 = .ok (.istore 5, 2) := by decide +kernel
theorem dX4_put_42 : decode cX4_put 42 = .ok (.iload 5, 2) := by decide +kernel
theorem dX4_put_44 : decode cX4_put 44 = .ok (.ifCond .eq 23, 3) := by decide +kernel
theorem dX4_put_47 : decode cX4_put 47 = .ok (.aload_n 0, 1) := by decide +kernel
theorem dX4_put_48 : decode cX4_put 48 = .ok (.getfield 64, 3) := by decide +kernel
theorem dX4_put_51 : decode cX4_put 51 = .ok (.sipush 256, 3) := by decide +kernel
theorem dX4_put_54 : decode cX4_put 54 = .ok (.if_icmp .lt 13, 3) := by decide +kernel
theorem dX4_put_57 : decode cX4_put 57 = .ok (.new 68, 3) := by decide +kernel
theorem dX4_put_60 : decode cX4_put 60 = .ok (.dup, 1) := by decide +kernel
theorem dX4_put_61 : decode cX4_put 61 = .ok (.ldc 70, 2) := by decide +kernel
theorem dX4_put_63 : decode cX4_put 63 = .ok (.invokespecial 72, 3) := by decide +kernel
theorem dX4_put_66 : decode cX4_put 66 = .ok (.athrow, 1) := by decide +kernel
theorem dX4_put_67 : decode cX4_put 67 = .ok (.aload_n 0, 1) := by decide +kernel
theorem dX4_put_68 : decode cX4_put 68 = .ok (.getfield 41, 3) := by decide +kernel
theorem dX4_put_71 : decode cX4_put 71 = .ok (.invokevirtual 75, 3) := by decide +kernel
theorem dX4_put_74 : decode cX4_put 74 = .ok (.ifCond .ne 6, 3) := by decide +kernel
theorem dX4_put_77 : decode cX4_put 77 = .ok (.bipush (-9), 2) := by decide +kernel
theorem dX4_put_79 : decode cX4_put 79 = .ok (.ireturn, 1) := by decide +kernel
theorem dX4_put_80 : decode cX4_put 80 = .ok (.aload 4, 2) := by decide +kernel
theorem dX4_put_82 : decode cX4_put 82 = .ok (.iload_n 1, 1) := by decide +kernel
theorem dX4_put_83 : decode cX4_put 83 = .ok (.iload_n 2, 1) := by decide +kernel
theorem dX4_put_84 : decode cX4_put 84 = .ok (.invokevirtual 79, 3) := by decide +kernel
theorem dX4_put_87 : decode cX4_put 87 = .ok (.aload_n 0, 1) := by decide +kernel
theorem dX4_put_88 : decode cX4_put 88 = .ok (.dup, 1) := by decide +kernel
theorem dX4_put_89 : decode cX4_put 89 = .ok (.getfield 64, 3) := by decide +kernel
theorem dX4_put_92 : decode cX4_put 92 = .ok (.iload 5, 2) := by decide +kernel
theorem dX4_put_94 : decode cX4_put 94 = .ok (.ifCond .eq 7, 3) := by decide +kernel
theorem dX4_put_97 : decode cX4_put 97 = .ok (.iconst 1, 1) := by decide +kernel
theorem dX4_put_98 : decode cX4_put 98 = .ok (.goto 4, 3) := by decide +kernel
theorem dX4_put_101 : decode cX4_put 101 = .ok (.iconst 0, 1) := by decide +kernel
theorem dX4_put_102 : decode cX4_put 102 = .ok (.iadd, 1) := by decide +kernel
theorem dX4_put_103 : decode cX4_put 103 = .ok (.putfield 64, 3) := by decide +kernel
theorem dX4_put_106 : decode cX4_put 106 = .ok (.aload_n 0, 1) := by decide +kernel
theorem dX4_put_107 : decode cX4_put 107 = .ok (.getfield 34, 3) := by decide +kernel
theorem dX4_put_110 : decode cX4_put 110 = .ok (.iload_n 3, 1) := by decide +kernel
theorem dX4_put_111 : decode cX4_put 111 = .ok (.invokevirtual 82, 3) := by decide +kernel
theorem dX4_put_114 : decode cX4_put 114 = .ok (.iconst 2, 1) := by decide +kernel
theorem dX4_put_115 : decode cX4_put 115 = .ok (.if_icmp .ne 35, 3) := by decide +kernel
theorem dX4_put_118 : decode cX4_put 118 = .ok (.aload_n 0, 1) := by decide +kernel
theorem dX4_put_119 : decode cX4_put 119 = .ok (.getfield 41, 3) := by decide +kernel
theorem dX4_put_122 : decode cX4_put 122 = .ok (.invokevirtual 75, 3) := by decide +kernel
theorem dX4_put_125 : decode cX4_put 125 = .ok (.ifCond .ne 6, 3) := by decide +kernel
theorem dX4_put_128 : decode cX4_put 128 = .ok (.bipush (-9), 2) := by decide +kernel
theorem dX4_put_130 : decode cX4_put 130 = .ok (.ireturn, 1) := by decide +kernel
theorem dX4_put_131 : decode cX4_put 131 = .ok (.aload_n 0, 1) := by decide +kernel
theorem dX4_put_132 : decode cX4_put 132 = .ok (.getfield 27, 3) := by decide +kernel
theorem dX4_put_135 : decode cX4_put 135 = .ok (.aload_n 0, 1) := by decide +kernel
theorem dX4_put_136 : decode cX4_put 136 = .ok (.getfield 34, 3) := by decide +kernel
theorem dX4_put_139 : decode cX4_put 139 = .ok (.getfield 85, 3) := by decide +kernel
theorem dX4_put_142 : decode cX4_put 142 = .ok (.iload_n 3, 1) := by decide +kernel
theorem dX4_put_143 : decode cX4_put 143 = .ok (.iaload, 1) := by decide +kernel
theorem dX4_put_144 : decode cX4_put 144 = .ok (.aaload, 1) := by decide +kernel
theorem dX4_put_145 : decode cX4_put 145 = .ok (.iload_n 1, 1) := by decide +kernel
theorem dX4_put_146 : decode cX4_put 146 = .ok (.iload_n 2, 1) := by decide +kernel
theorem dX4_put_147 : decode cX4_put 147 = .ok (.invokevirtual 79, 3) := by decide +kernel
theorem dX4_put_150 : decode cX4_put 150 = .ok (.iload 5, 2) := by decide +kernel
theorem dX4_put_152 : decode cX4_put 152 = .ok (.ifCond .eq 7, 3) := by decide +kernel
theorem dX4_put_155 : decode cX4_put 155 = .ok (.iconst 1, 1) := by decide +kernel
theorem dX4_put_156 : decode cX4_put 156 = .ok (.goto 4, 3) := by decide +kernel
theorem dX4_put_159 : decode cX4_put 159 = .ok (.iconst 0, 1) := by decide +kernel
theorem dX4_put_160 : decode cX4_put 160 = .ok (.ireturn, 1) := by decide +kernel
theorem dX4_remove_0 : decode cX4_remove 0 = .ok (.aload_n 0, 1) := by decide +kernel
theorem dX4_remove_1 : decode cX4_remove 1 = .ok (.invokevirtual 50, 3) := by decide +kernel
theorem dX4_remove_4 : decode cX4_remove 4 = .ok (.aload_n 0, 1) := by decide +kernel
theorem dX4_remove_5 : decode cX4_remove 5 = .ok (.getfield 34, 3) := by decide +kernel
theorem dX4_remove_8 : decode cX4_remove 8 = .ok (.iload_n 1, 1) := by decide +kernel
theorem dX4_remove_9 : decode cX4_remove 9 = .ok (.invokevirtual 53, 3) := by decide +kernel
theorem dX4_remove_12 : decode cX4_remove 12 = .ok (.istore_n 2, 1) := by decide +kernel
theorem dX4_remove_13 : decode cX4_remove 13 = .ok (.aload_n 0, 1) := by decide +kernel
theorem dX4_remove_14 : decode cX4_remove 14 = .ok (.getfield 27, 3) := by decide +kernel
theorem dX4_remove_17 : decode cX4_remove 17 = .ok (.aload_n 0, 1) := by decide +kernel
theorem dX4_remove_18 : decode cX4_remove 18 = .ok (.iload_n 2, 1) := by decide +kernel
theorem dX4_remove_19 : decode cX4_remove 19 = .ok (.iload_n 1, 1) := by decide +kernel
theorem dX4_remove_20 : decode cX4_remove 20 = .ok (.invokevirtual 57, 3) := by decide +kernel
theorem dX4_remove_23 : decode cX4_remove 23 = .ok (.aaload, 1) := by decide +kernel
theorem dX4_remove_24 : decode cX4_remove 24 = .ok (.astore_n 3, 1) := by decide +kernel
theorem dX4_remove_25 : decode cX4_remove 25 = .ok (.aload_n 3, 1) := by decide +kernel
theorem dX4_remove_26 : decode cX4_remove 26 = .ok (.iload_n 1, 1) := by decide +kernel
theorem dX4_remove_27 : decode cX4_remove 27 = .ok (.invokevirtual 60, 3) := by decide +kernel
theorem dX4_remove_30 : decode cX4_remove 30 = .ok (.ifCond .ne 5, 3) := by decide +kernel
theorem dX4_remove_33 : decode cX4_remove 33 = .ok (.iconst 0, 1) := by decide +kernel
theorem dX4_remove_34 : decode cX4_remove 34 = .ok (.ireturn, 1) := by decide +kernel
theorem dX4_remove_35 : decode cX4_remove 35 = .ok (.aload_n 0, 1) := by decide +kernel
theorem dX4_remove_36 : decode cX4_remove 36 = .ok (.getfield 41, 3) := by decide +kernel
theorem dX4_remove_39 : decode cX4_remove 39 = .ok (.invokevirtual 75, 3) := by decide +kernel
theorem dX4_remove_42 : decode cX4_remove 42 = .ok (.ifCond .ne 6, 3) := by decide +kernel
theorem dX4_remove_45 : decode cX4_remove 45 = .ok (.bipush (-9), 2) := by decide +kernel
theorem dX4_remove_47 : decode cX4_remove 47 = .ok (.ireturn, 1) := by decide +kernel
theorem dX4_remove_48 : decode cX4_remove 48 = .ok (.aload_n 3, 1) := by decide +kernel
theorem dX4_remove_49 : decode cX4_remove 49 = .ok (.iload_n 1, 1) := by decide +kernel
theorem dX4_remove_50 : decode cX4_remove 50 = .ok (.invokevirtual 89, 3) := by decide +kernel
theorem dX4_remove_53 : decode cX4_remove 53 = .ok (.aload_n 0, 1) := by decide +kernel
theorem dX4_remove_54 : decode cX4_remove 54 = .ok (.dup, 1) := by decide +kernel
theorem dX4_remove_55 : decode cX4_remove 55 = .ok (.getfield 64, 3) := by decide +kernel
theorem dX4_remove_58 : decode cX4_remove 58 = .ok (.iconst 1, 1) := by decide +kernel
theorem dX4_remove_59 : decode cX4_remove 59 = .ok (.isub, 1) := by decide +kernel
theorem dX4_remove_60 : decode cX4_remove 60 = .ok (.putfield 64, 3) := by decide +kernel
theorem dX4_remove_63 : decode cX4_remove 63 = .ok (.aload_n 0, 1) := by decide +kernel
theorem dX4_remove_64 : decode cX4_remove 64 = .ok (.getfield 34, 3) := by decide +kernel
theorem dX4_remove_67 : decode cX4_remove 67 = .ok (.iload_n 2, 1) := by decide +kernel
theorem dX4_remove_68 : decode cX4_remove 68 = .ok (.invokevirtual 82, 3) := by decide +kernel
theorem dX4_remove_71 : decode cX4_remove 71 = .ok (.iconst 2, 1) := by decide +kernel
theorem dX4_remove_72 : decode cX4_remove 72 = .ok (.if_icmp .ne 34, 3) := by decide +kernel
theorem dX4_remove_75 : decode cX4_remove 75 = .ok (.aload_n 0, 1) := by decide +kernel
theorem dX4_remove_76 : decode cX4_remove 76 = .ok (.getfield 41, 3) := by decide +kernel
theorem dX4_remove_79 : decode cX4_remove 79 = .ok (.invokevirtual 75, 3) := by decide +kernel
theorem dX4_remove_82 : decode cX4_remove 82 = .ok (.ifCond .ne 6, 3) := by decide +kernel
theorem dX4_remove_85 : decode cX4_remove 85 = .ok (.bipush (-9), 2) := by decide +kernel
theorem dX4_remove_87 : decode cX4_remove 87 = .ok (.ireturn, 1) := by decide +kernel
theorem dX4_remove_88 : decode cX4_remove 88 = .ok (.aload_n 0, 1) := by decide +kernel
theorem dX4_remove_89 : decode cX4_remove 89 = .ok (.getfield 27, 3) := by decide +kernel
theorem dX4_remove_92 : decode cX4_remove 92 = .ok (.aload_n 0, 1) := by decide +kernel
theorem dX4_remove_93 : decode cX4_remove 93 = .ok (.getfield 34, 3) := by decide +kernel
theorem dX4_remove_96 : decode cX4_remove 96 = .ok (.getfield 85, 3) := by decide +kernel
theorem dX4_remove_99 : decode cX4_remove 99 = .ok (.iload_n 2, 1) := by decide +kernel
theorem dX4_remove_100 : decode cX4_remove 100 = .ok (.iaload, 1) := by decide +kernel
theorem dX4_remove_101 : decode cX4_remove 101 = .ok (.aaload, 1) := by decide +kernel
theorem dX4_remove_102 : decode cX4_remove 102 = .ok (.iload_n 1, 1) := by decide +kernel
theorem dX4_remove_103 : decode cX4_remove 103 = .ok (.invokevirtual 89, 3) := by decide +kernel
theorem dX4_remove_106 : decode cX4_remove 106 = .ok (.iconst 1, 1) := by decide +kernel
theorem dX4_remove_107 : decode cX4_remove 107 = .ok (.ireturn, 1) := by decide +kernel
theorem dX4_get_0 : decode cX4_get 0 = .ok (.aload_n 0, 1) := by decide +kernel
theorem dX4_get_1 : decode cX4_get 1 = .ok (.invokevirtual 50, 3) := by decide +kernel
theorem dX4_get_4 : decode cX4_get 4 = .ok (.aload_n 0, 1) := by decide +kernel
theorem dX4_get_5 : decode cX4_get 5 = .ok (.getfield 27, 3) := by decide +kernel
theorem dX4_get_8 : decode cX4_get 8 = .ok (.aload_n 0, 1) := by decide +kernel
theorem dX4_get_9 : decode cX4_get 9 = .ok (.aload_n 0, 1) := by decide +kernel
theorem dX4_get_10 : decode cX4_get 10 = .ok (.getfield 34, 3) := by decide +kernel
theorem dX4_get_13 : decode cX4_get 13 = .ok (.iload_n 1, 1) := by decide +kernel
theorem dX4_get_14 : decode cX4_get 14 = .ok (.invokevirtual 53, 3) := by decide +kernel
theorem dX4_get_17 : decode cX4_get 17 = .ok (.iload_n 1, 1) := by decide +kernel
theorem dX4_get_18 : decode cX4_get 18 = .ok (.invokevirtual 57, 3) := by decide +kernel
theorem dX4_get_21 : decode cX4_get 21 = .ok (.aaload, 1) := by decide +kernel
theorem dX4_get_22 : decode cX4_get 22 = .ok (.astore_n 2, 1) := by decide +kernel
theorem dX4_get_23 : decode cX4_get 23 = .ok (.aload_n 2, 1) := by decide +kernel
theorem dX4_get_24 : decode cX4_get 24 = .ok (.iload_n 1, 1) := by decide +kernel
theorem dX4_get_25 : decode cX4_get 25 = .ok (.invokevirtual 60, 3) := by decide +kernel
theorem dX4_get_28 : decode cX4_get 28 = .ok (.ifCond .ne 13, 3) := by decide +kernel
theorem dX4_get_31 : decode cX4_get 31 = .ok (.new 93, 3) := by decide +kernel
theorem dX4_get_34 : decode cX4_get 34 = .ok (.dup, 1) := by decide +kernel
theorem dX4_get_35 : decode cX4_get 35 = .ok (.ldc 95, 2) := by decide +kernel
theorem dX4_get_37 : decode cX4_get 37 = .ok (.invokespecial 97, 3) := by decide +kernel
theorem dX4_get_40 : decode cX4_get 40 = .ok (.athrow, 1) := by decide +kernel
theorem dX4_get_41 : decode cX4_get 41 = .ok (.aload_n 2, 1) := by decide +kernel
theorem dX4_get_42 : decode cX4_get 42 = .ok (.iload_n 1, 1) := by decide +kernel
theorem dX4_get_43 : decode cX4_get 43 = .ok (.invokevirtual 98, 3) := by decide +kernel
theorem dX4_get_46 : decode cX4_get 46 = .ok (.ireturn, 1) := by decide +kernel
theorem dX4_join_0 : decode cX4_join 0 = .ok (.iload_n 1, 1) := by decide +kernel
theorem dX4_join_1 : decode cX4_join 1 = .ok (.invokestatic 101, 3) := by decide +kernel
theorem dX4_join_4 : decode cX4_join 4 = .ok (.iload_n 2, 1) := by decide +kernel
theorem dX4_join_5 : decode cX4_join 5 = .ok (.iconst 1, 1) := by decide +kernel
theorem dX4_join_6 : decode cX4_join 6 = .ok (.if_icmp .lt 9, 3) := by decide +kernel
theorem dX4_join_9 : decode cX4_join 9 = .ok (.iload_n 2, 1) := by decide +kernel
theorem dX4_join_10 : decode cX4_join 10 = .ok (.bipush 16, 2) := by decide +kernel
theorem dX4_join_12 : decode cX4_join 12 = .ok (.if_icmp .le 13, 3) := by decide +kernel
theorem dX4_join_15 : decode cX4_join 15 = .ok (.new 104, 3) := by decide +kernel
theorem dX4_join_18 : decode cX4_join 18 = .ok (.dup, 1) := by decide +kernel
theorem dX4_join_19 : decode cX4_join 19 = .ok (.ldc 106, 2) := by decide +kernel
theorem dX4_join_21 : decode cX4_join 21 = .ok (.invokespecial 108, 3) := by decide +kernel
theorem dX4_join_24 : decode cX4_join 24 = .ok (.athrow, 1) := by decide +kernel
theorem dX4_join_25 : decode cX4_join 25 = .ok (.aload_n 0, 1) := by decide +kernel
theorem dX4_join_26 : decode cX4_join 26 = .ok (.invokevirtual 50, 3) := by decide +kernel
theorem dX4_join_29 : decode cX4_join 29 = .ok (.aload_n 0, 1) := by decide +kernel
theorem dX4_join_30 : decode cX4_join 30 = .ok (.getfield 34, 3) := by decide +kernel
theorem dX4_join_33 : decode cX4_join 33 = .ok (.getfield 109, 3) := by decide +kernel
theorem dX4_join_36 : decode cX4_join 36 = .ok (.ifCond .ne 15, 3) := by decide +kernel
theorem dX4_join_39 : decode cX4_join 39 = .ok (.aload_n 0, 1) := by decide +kernel
theorem dX4_join_40 : decode cX4_join 40 = .ok (.getfield 21, 3) := by decide +kernel
theorem dX4_join_43 : decode cX4_join 43 = .ok (.getfield 113, 3) := by decide +kernel
theorem dX4_join_46 : decode cX4_join 46 = .ok (.iload_n 1, 1) := by decide +kernel
theorem dX4_join_47 : decode cX4_join 47 = .ok (.iaload, 1) := by decide +kernel
theorem dX4_join_48 : decode cX4_join 48 = .ok (.ifCond .le 13, 3) := by decide +kernel
theorem dX4_join_51 : decode cX4_join 51 = .ok (.new 68, 3) := by decide +kernel
theorem dX4_join_54 : decode cX4_join 54 = .ok (.dup, 1) := by decide +kernel
theorem dX4_join_55 : decode cX4_join 55 = .ok (.ldc 116, 2) := by decide +kernel
theorem dX4_join_57 : decode cX4_join 57 = .ok (.invokespecial 72, 3) := by decide +kernel
theorem dX4_join_60 : decode cX4_join 60 = .ok (.athrow, 1) := by decide +kernel
theorem dX4_join_61 : decode cX4_join 61 = .ok (.aload_n 0, 1) := by decide +kernel
theorem dX4_join_62 : decode cX4_join 62 = .ok (.getfield 41, 3) := by decide +kernel
theorem dX4_join_65 : decode cX4_join 65 = .ok (.invokevirtual 118, 3) := by decide +kernel
theorem dX4_join_68 : decode cX4_join 68 = .ok (.ifCond .ne 6, 3) := by decide +kernel
theorem dX4_join_71 : decode cX4_join 71 = .ok (.bipush (-9), 2) := by decide +kernel
theorem dX4_join_73 : decode cX4_join 73 = .ok (.ireturn, 1) := by decide +kernel
theorem dX4_join_74 : decode cX4_join 74 = .ok (.aload_n 0, 1) := by decide +kernel
theorem dX4_join_75 : decode cX4_join 75 = .ok (.getfield 21, 3) := by decide +kernel
theorem dX4_join_78 : decode cX4_join 78 = .ok (.iload_n 1, 1) := by decide +kernel
theorem dX4_join_79 : decode cX4_join 79 = .ok (.iload_n 2, 1) := by decide +kernel
theorem dX4_join_80 : decode cX4_join 80 = .ok (.invokevirtual 46, 3) := by decide +kernel
theorem dX4_join_83 : decode cX4_join 83 = .ok (.aload_n 0, 1) := by decide +kernel
theorem dX4_join_84 : decode cX4_join 84 = .ok (.invokevirtual 121, 3) := by decide +kernel
theorem dX4_join_87 : decode cX4_join 87 = .ok (.aload_n 0, 1) := by decide +kernel
theorem dX4_join_88 : decode cX4_join 88 = .ok (.getfield 34, 3) := by decide +kernel
theorem dX4_join_91 : decode cX4_join 91 = .ok (.getfield 124, 3) := by decide +kernel
theorem dX4_join_94 : decode cX4_join 94 = .ok (.ireturn, 1) := by decide +kernel
theorem dX4_leave_0 : decode cX4_leave 0 = .ok (.iload_n 1, 1) := by decide +kernel
theorem dX4_leave_1 : decode cX4_leave 1 = .ok (.invokestatic 101, 3) := by decide +kernel
theorem dX4_leave_4 : decode cX4_leave 4 = .ok (.aload_n 0, 1) := by decide +kernel
theorem dX4_leave_5 : decode cX4_leave 5 = .ok (.invokevirtual 50, 3) := by decide +kernel
theorem dX4_leave_8 : decode cX4_leave 8 = .ok (.aload_n 0, 1) := by decide +kernel
theorem dX4_leave_9 : decode cX4_leave 9 = .ok (.getfield 34, 3) := by decide +kernel
theorem dX4_leave_12 : decode cX4_leave 12 = .ok (.getfield 109, 3) := by decide +kernel
theorem dX4_leave_15 : decode cX4_leave 15 = .ok (.ifCond .ne 34, 3) := by decide +kernel
theorem dX4_leave_18 : decode cX4_leave 18 = .ok (.aload_n 0, 1) := by decide +kernel
theorem dX4_leave_19 : decode cX4_leave 19 = .ok (.getfield 21, 3) := by decide +kernel
theorem dX4_leave_22 : decode cX4_leave 22 = .ok (.getfield 113, 3) := by decide +kernel
theorem dX4_leave_25 : decode cX4_leave 25 = .ok (.iload_n 1, 1) := by decide +kernel
theorem dX4_leave_26 : decode cX4_leave 26 = .ok (.iaload, 1) := by decide +kernel
theorem dX4_leave_27 : decode cX4_leave 27 = .ok (.ifCond .eq 22, 3) := by decide +kernel
theorem dX4_leave_30 : decode cX4_leave 30 = .ok (.aload_n 0, 1) := by decide +kernel
theorem dX4_leave_31 : decode cX4_leave 31 = .ok (.getfield 21, 3) := by decide +kernel
theorem dX4_leave_34 : decode cX4_leave 34 = .ok (.getfield 113, 3) := by decide +kernel
theorem dX4_leave_37 : decode cX4_leave 37 = .ok (.iload_n 1, 1) := by decide +kernel
theorem dX4_leave_38 : decode cX4_leave 38 = .ok (.iaload, 1) := by decide +kernel
theorem dX4_leave_39 : decode cX4_leave 39 = .ok (.aload_n 0, 1) := by decide +kernel
theorem dX4_leave_40 : decode cX4_leave 40 = .ok (.getfield 21, 3) := by decide +kernel
theorem dX4_leave_43 : decode cX4_leave 43 = .ok (.getfield 127, 3) := by decide +kernel
theorem dX4_leave_46 : decode cX4_leave 46 = .ok (.if_icmp .ne 13, 3) := by decide +kernel
theorem dX4_leave_49 : decode cX4_leave 49 = .ok (.new 68, 3) := by decide +kernel
theorem dX4_leave_52 : decode cX4_leave 52 = .ok (.dup, 1) := by decide +kernel
theorem dX4_leave_53 : decode cX4_leave 53 = .ok (.ldc 128, 2) := by decide +kernel
theorem dX4_leave_55 : decode cX4_leave 55 = .ok (.invokespecial 72, 3) := by decide +kernel
theorem dX4_leave_58 : decode cX4_leave 58 = .ok (.athrow, 1) := by decide +kernel
theorem dX4_leave_59 : decode cX4_leave 59 = .ok (.aload_n 0, 1) := by decide +kernel
theorem dX4_leave_60 : decode cX4_leave 60 = .ok (.getfield 41, 3) := by decide +kernel
theorem dX4_leave_63 : decode cX4_leave 63 = .ok (.invokevirtual 118, 3) := by decide +kernel
theorem dX4_leave_66 : decode cX4_leave 66 = .ok (.ifCond .ne 6, 3) := by decide +kernel
theorem dX4_leave_69 : decode cX4_leave 69 = .ok (.bipush (-9), 2) := by decide +kernel
theorem dX4_leave_71 : decode cX4_leave 71 = .ok (.ireturn, 1) := by decide +kernel
theorem dX4_leave_72 : decode cX4_leave 72 = .ok (.aload_n 0, 1) := by decide +kernel
theorem dX4_leave_73 : decode cX4_leave 73 = .ok (.getfield 21, 3) := by decide +kernel
theorem dX4_leave_76 : decode cX4_leave 76 = .ok (.iload_n 1, 1) := by decide +kernel
theorem dX4_leave_77 : decode cX4_leave 77 = .ok (.invokevirtual 130, 3) := by decide +kernel
theorem dX4_leave_80 : decode cX4_leave 80 = .ok (.aload_n 0, 1) := by decide +kernel
theorem dX4_leave_81 : decode cX4_leave 81 = .ok (.invokevirtual 121, 3) := by decide +kernel
theorem dX4_leave_84 : decode cX4_leave 84 = .ok (.aload_n 0, 1) := by decide +kernel
theorem dX4_leave_85 : decode cX4_leave 85 = .ok (.getfield 34, 3) := by decide +kernel
theorem dX4_leave_88 : decode cX4_leave 88 = .ok (.getfield 124, 3) := by decide +kernel
theorem dX4_leave_91 : decode cX4_leave 91 = .ok (.ireturn, 1) := by decide +kernel
theorem dX4_step_0 : decode cX4_step 0 = .ok (.aload_n 0, 1) := by decide +kernel
theorem dX4_step_1 : decode cX4_step 1 = .ok (.invokevirtual 50, 3) := by decide +kernel
theorem dX4_step_4 : decode cX4_step 4 = .ok (.aload_n 0, 1) := by decide +kernel
theorem dX4_step_5 : decode cX4_step 5 = .ok (.getfield 34, 3) := by decide +kernel
theorem dX4_step_8 : decode cX4_step 8 = .ok (.getfield 109, 3) := by decide +kernel
theorem dX4_step_11 : decode cX4_step 11 = .ok (.ifCond .ne 13, 3) := by decide +kernel
theorem dX4_step_14 : decode cX4_step 14 = .ok (.new 68, 3) := by decide +kernel
theorem dX4_step_17 : decode cX4_step 17 = .ok (.dup, 1) := by decide +kernel
theorem dX4_step_18 : decode cX4_step 18 = .ok (.ldc 133, 2) := by decide +kernel
theorem dX4_step_20 : decode cX4_step 20 = .ok (.invokespecial 72, 3) := by decide +kernel
theorem dX4_step_23 : decode cX4_step 23 = .ok (.athrow, 1) := by decide +kernel
theorem dX4_step_24 : decode cX4_step 24 = .ok (.aload_n 0, 1) := by decide +kernel
theorem dX4_step_25 : decode cX4_step 25 = .ok (.getfield 34, 3) := by decide +kernel
theorem dX4_step_28 : decode cX4_step 28 = .ok (.getfield 135, 3) := by decide +kernel
theorem dX4_step_31 : decode cX4_step 31 = .ok (.istore_n 1, 1) := by decide +kernel
theorem dX4_step_32 : decode cX4_step 32 = .ok (.aload_n 0, 1) := by decide +kernel
theorem dX4_step_33 : decode cX4_step 33 = .ok (.getfield 34, 3) := by decide +kernel
theorem dX4_step_36 : decode cX4_step 36 = .ok (.iload_n 1, 1) := by decide +kernel
theorem dX4_step_37 : decode cX4_step 37 = .ok (.invokevirtual 82, 3) := by decide +kernel
theorem dX4_step_40 : decode cX4_step 40 = .ok (.tableswitch 45 1 3 #[28, 34, 39], 28) := by decide +kernel
theorem dX4_step_68 : decode cX4_step 68 = .ok (.aload_n 0, 1) := by decide +kernel
theorem dX4_step_69 : decode cX4_step 69 = .ok (.iload_n 1, 1) := by decide +kernel
theorem dX4_step_70 : decode cX4_step 70 = .ok (.invokevirtual 138, 3) := by decide +kernel
theorem dX4_step_73 : decode cX4_step 73 = .ok (.ireturn, 1) := by decide +kernel
theorem dX4_step_74 : decode cX4_step 74 = .ok (.aload_n 0, 1) := by decide +kernel
theorem dX4_step_75 : decode cX4_step 75 = .ok (.invokevirtual 141, 3) := by decide +kernel
theorem dX4_step_78 : decode cX4_step 78 = .ok (.ireturn, 1) := by decide +kernel
theorem dX4_step_79 : decode cX4_step 79 = .ok (.aload_n 0, 1) := by decide +kernel
theorem dX4_step_80 : decode cX4_step 80 = .ok (.iload_n 1, 1) := by decide +kernel
theorem dX4_step_81 : decode cX4_step 81 = .ok (.invokevirtual 145, 3) := by decide +kernel
theorem dX4_step_84 : decode cX4_step 84 = .ok (.ireturn, 1) := by decide +kernel
theorem dX4_step_85 : decode cX4_step 85 = .ok (.aload_n 0, 1) := by decide +kernel
theorem dX4_step_86 : decode cX4_step 86 = .ok (.invokevirtual 148, 3) := by decide +kernel
theorem dX4_step_89 : decode cX4_step 89 = .ok (.ireturn, 1) := by decide +kernel
theorem dX4_fail_0 : decode cX4_fail 0 = .ok (.iload_n 1, 1) := by decide +kernel
theorem dX4_fail_1 : decode cX4_fail 1 = .ok (.iconst (-1), 1) := by decide +kernel
theorem dX4_fail_2 : decode cX4_fail 2 = .ok (.if_icmp .ge 13, 3) := by decide +kernel
theorem dX4_fail_5 : decode cX4_fail 5 = .ok (.new 104, 3) := by decide +kernel
theorem dX4_fail_8 : decode cX4_fail 8 = .ok (.dup, 1) := by decide +kernel
theorem dX4_fail_9 : decode cX4_fail 9 = .ok (.ldc 151, 2) := by decide +kernel
theorem dX4_fail_11 : decode cX4_fail 11 = .ok (.invokespecial 108, 3) := by decide +kernel
theorem dX4_fail_14 : decode cX4_fail 14 = .ok (.athrow, 1) := by decide +kernel
theorem dX4_fail_15 : decode cX4_fail 15 = .ok (.aload_n 0, 1) := by decide +kernel
theorem dX4_fail_16 : decode cX4_fail 16 = .ok (.invokevirtual 50, 3) := by decide +kernel
theorem dX4_fail_19 : decode cX4_fail 19 = .ok (.aload_n 0, 1) := by decide +kernel
theorem dX4_fail_20 : decode cX4_fail 20 = .ok (.getfield 41, 3) := by decide +kernel
theorem dX4_fail_23 : decode cX4_fail 23 = .ok (.iload_n 1, 1) := by decide +kernel
theorem dX4_fail_24 : decode cX4_fail 24 = .ok (.putfield 153, 3) := by decide +kernel
theorem dX4_fail_27 : decode cX4_fail 27 = .ok (.return_, 1) := by decide +kernel
theorem dX4_recover_0 : decode cX4_recover 0 = .ok (.aload_n 0, 1) := by decide +kernel
theorem dX4_recover_1 : decode cX4_recover 1 = .ok (.getfield 41, 3) := by decide +kernel
theorem dX4_recover_4 : decode cX4_recover 4 = .ok (.getfield 156, 3) := by decide +kernel
theorem dX4_recover_7 : decode cX4_recover 7 = .ok (.ifCond .ne 13, 3) := by decide +kernel
theorem dX4_recover_10 : decode cX4_recover 10 = .ok (.new 68, 3) := by decide +kernel
theorem dX4_recover_13 : decode cX4_recover 13 = .ok (.dup, 1) := by decide +kernel
theorem dX4_recover_14 : decode cX4_recover 14 = .ok (.ldc 159, 2) := by decide +kernel
theorem dX4_recover_16 : decode cX4_recover 16 = .ok (.invokespecial 72, 3) := by decide +kernel
theorem dX4_recover_19 : decode cX4_recover 19 = .ok (.athrow, 1) := by decide +kernel
theorem dX4_recover_20 : decode cX4_recover 20 = .ok (.aload_n 0, 1) := by decide +kernel
theorem dX4_recover_21 : decode cX4_recover 21 = .ok (.getfield 41, 3) := by decide +kernel
theorem dX4_recover_24 : decode cX4_recover 24 = .ok (.iconst 0, 1) := by decide +kernel
theorem dX4_recover_25 : decode cX4_recover 25 = .ok (.putfield 156, 3) := by decide +kernel
theorem dX4_recover_28 : decode cX4_recover 28 = .ok (.aload_n 0, 1) := by decide +kernel
theorem dX4_recover_29 : decode cX4_recover 29 = .ok (.getfield 41, 3) := by decide +kernel
theorem dX4_recover_32 : decode cX4_recover 32 = .ok (.iconst (-1), 1) := by decide +kernel
theorem dX4_recover_33 : decode cX4_recover 33 = .ok (.putfield 153, 3) := by decide +kernel
theorem dX4_recover_36 : decode cX4_recover 36 = .ok (.aload_n 0, 1) := by decide +kernel
theorem dX4_recover_37 : decode cX4_recover 37 = .ok (.getfield 34, 3) := by decide +kernel
theorem dX4_recover_40 : decode cX4_recover 40 = .ok (.invokevirtual 161, 3) := by decide +kernel
theorem dX4_recover_43 : decode cX4_recover 43 = .ok (.aload_n 0, 1) := by decide +kernel
theorem dX4_recover_44 : decode cX4_recover 44 = .ok (.getfield 34, 3) := by decide +kernel
theorem dX4_recover_47 : decode cX4_recover 47 = .ok (.getfield 109, 3) := by decide +kernel
theorem dX4_recover_50 : decode cX4_recover 50 = .ok (.ifCond .eq 21, 3) := by decide +kernel
theorem dX4_recover_53 : decode cX4_recover 53 = .ok (.aload_n 0, 1) := by decide +kernel
theorem dX4_recover_54 : decode cX4_recover 54 = .ok (.getfield 34, 3) := by decide +kernel
theorem dX4_recover_57 : decode cX4_recover 57 = .ok (.getfield 124, 3) := by decide +kernel
theorem dX4_recover_60 : decode cX4_recover 60 = .ok (.aload_n 0, 1) := by decide +kernel
theorem dX4_recover_61 : decode cX4_recover 61 = .ok (.getfield 34, 3) := by decide +kernel
theorem dX4_recover_64 : decode cX4_recover 64 = .ok (.getfield 164, 3) := by decide +kernel
theorem dX4_recover_67 : decode cX4_recover 67 = .ok (.isub, 1) := by decide +kernel
theorem dX4_recover_68 : decode cX4_recover 68 = .ok (.goto 4, 3) := by decide +kernel
theorem dX4_recover_71 : decode cX4_recover 71 = .ok (.iconst (-1), 1) := by decide +kernel
theorem dX4_recover_72 : decode cX4_recover 72 = .ok (.ireturn, 1) := by decide +kernel
theorem dX4_off_0 : decode cX4_off 0 = .ok (.aload_n 0, 1) := by decide +kernel
theorem dX4_off_1 : decode cX4_off 1 = .ok (.getfield 41, 3) := by decide +kernel
theorem dX4_off_4 : decode cX4_off 4 = .ok (.getfield 156, 3) := by decide +kernel
theorem dX4_off_7 : decode cX4_off 7 = .ok (.ireturn, 1) := by decide +kernel
theorem dX4_place_0 : decode cX4_place 0 = .ok (.lload_n 1, 1) := by decide +kernel
theorem dX4_place_1 : decode cX4_place 1 = .ok (.invokestatic 167, 3) := by decide +kernel
theorem dX4_place_4 : decode cX4_place 4 = .ok (.ireturn, 1) := by decide +kernel
theorem dX4_owner_0 : decode cX4_owner 0 = .ok (.aload_n 0, 1) := by decide +kernel
theorem dX4_owner_1 : decode cX4_owner 1 = .ok (.invokevirtual 50, 3) := by decide +kernel
theorem dX4_owner_4 : decode cX4_owner 4 = .ok (.aload_n 0, 1) := by decide +kernel
theorem dX4_owner_5 : decode cX4_owner 5 = .ok (.getfield 21, 3) := by decide +kernel
theorem dX4_owner_8 : decode cX4_owner 8 = .ok (.iload_n 1, 1) := by decide +kernel
theorem dX4_owner_9 : decode cX4_owner 9 = .ok (.invokevirtual 171, 3) := by decide +kernel
theorem dX4_owner_12 : decode cX4_owner 12 = .ok (.ireturn, 1) := by decide +kernel
theorem dX4_home_0 : decode cX4_home 0 = .ok (.aload_n 0, 1) := by decide +kernel
theorem dX4_home_1 : decode cX4_home 1 = .ok (.invokevirtual 50, 3) := by decide +kernel
theorem dX4_home_4 : decode cX4_home 4 = .ok (.aload_n 0, 1) := by decide +kernel
theorem dX4_home_5 : decode cX4_home 5 = .ok (.aload_n 0, 1) := by decide +kernel
theorem dX4_home_6 : decode cX4_home 6 = .ok (.getfield 34, 3) := by decide +kernel
theorem dX4_home_9 : decode cX4_home 9 = .ok (.iload_n 1, 1) := by decide +kernel
theorem dX4_home_10 : decode cX4_home 10 = .ok (.invokevirtual 53, 3) := by decide +kernel
theorem dX4_home_13 : decode cX4_home 13 = .ok (.iload_n 1, 1) := by decide +kernel
theorem dX4_home_14 : decode cX4_home 14 = .ok (.invokevirtual 57, 3) := by decide +kernel
theorem dX4_home_17 : decode cX4_home 17 = .ok (.ireturn, 1) := by decide +kernel
theorem dX4_state_0 : decode cX4_state 0 = .ok (.aload_n 0, 1) := by decide +kernel
theorem dX4_state_1 : decode cX4_state 1 = .ok (.invokevirtual 50, 3) := by decide +kernel
theorem dX4_state_4 : decode cX4_state 4 = .ok (.aload_n 0, 1) := by decide +kernel
theorem dX4_state_5 : decode cX4_state 5 = .ok (.getfield 34, 3) := by decide +kernel
theorem dX4_state_8 : decode cX4_state 8 = .ok (.aload_n 0, 1) := by decide +kernel
theorem dX4_state_9 : decode cX4_state 9 = .ok (.getfield 34, 3) := by decide +kernel
theorem dX4_state_12 : decode cX4_state 12 = .ok (.iload_n 1, 1) := by decide +kernel
theorem dX4_state_13 : decode cX4_state 13 = .ok (.invokevirtual 53, 3) := by decide +kernel
theorem dX4_state_16 : decode cX4_state 16 = .ok (.invokevirtual 82, 3) := by decide +kernel
theorem dX4_state_19 : decode cX4_state 19 = .ok (.ireturn, 1) := by decide +kernel
theorem dX4_holds_0 : decode cX4_holds 0 = .ok (.iload_n 1, 1) := by decide +kernel
theorem dX4_holds_1 : decode cX4_holds 1 = .ok (.invokestatic 101, 3) := by decide +kernel
theorem dX4_holds_4 : decode cX4_holds 4 = .ok (.aload_n 0, 1) := by decide +kernel
theorem dX4_holds_5 : decode cX4_holds 5 = .ok (.getfield 27, 3) := by decide +kernel
theorem dX4_holds_8 : decode cX4_holds 8 = .ok (.iload_n 1, 1) := by decide +kernel
theorem dX4_holds_9 : decode cX4_holds 9 = .ok (.aaload, 1) := by decide +kernel
theorem dX4_holds_10 : decode cX4_holds 10 = .ok (.iload_n 2, 1) := by decide +kernel
theorem dX4_holds_11 : decode cX4_holds 11 = .ok (.invokevirtual 60, 3) := by decide +kernel
theorem dX4_holds_14 : decode cX4_holds 14 = .ok (.ireturn, 1) := by decide +kernel
theorem dX4_size_0 : decode cX4_size 0 = .ok (.iload_n 1, 1) := by decide +kernel
theorem dX4_size_1 : decode cX4_size 1 = .ok (.invokestatic 101, 3) := by decide +kernel
theorem dX4_size_4 : decode cX4_size 4 = .ok (.aload_n 0, 1) := by decide +kernel
theorem dX4_size_5 : decode cX4_size 5 = .ok (.getfield 27, 3) := by decide +kernel
theorem dX4_size_8 : decode cX4_size 8 = .ok (.iload_n 1, 1) := by decide +kernel
theorem dX4_size_9 : decode cX4_size 9 = .ok (.aaload, 1) := by decide +kernel
theorem dX4_size_10 : decode cX4_size 10 = .ok (.getfield 174, 3) := by decide +kernel
theorem dX4_size_13 : decode cX4_size 13 = .ok (.ireturn, 1) := by decide +kernel
theorem dX4_key_0 : decode cX4_key 0 = .ok (.iload_n 1, 1) := by decide +kernel
theorem dX4_key_1 : decode cX4_key 1 = .ok (.invokestatic 101, 3) := by decide +kernel
theorem dX4_key_4 : decode cX4_key 4 = .ok (.iload_n 2, 1) := by decide +kernel
theorem dX4_key_5 : decode cX4_key 5 = .ok (.ifCond .lt 16, 3) := by decide +kernel
theorem dX4_key_8 : decode cX4_key 8 = .ok (.iload_n 2, 1) := by decide +kernel
theorem dX4_key_9 : decode cX4_key 9 = .ok (.aload_n 0, 1) := by decide +kernel
theorem dX4_key_10 : decode cX4_key 10 = .ok (.getfield 27, 3) := by decide +kernel
theorem dX4_key_13 : decode cX4_key 13 = .ok (.iload_n 1, 1) := by decide +kernel
theorem dX4_key_14 : decode cX4_key 14 = .ok (.aaload, 1) := by decide +kernel
theorem dX4_key_15 : decode cX4_key 15 = .ok (.getfield 174, 3) := by decide +kernel
theorem dX4_key_18 : decode cX4_key 18 = .ok (.if_icmp .lt 13, 3) := by decide +kernel
theorem dX4_key_21 : decode cX4_key 21 = .ok (.new 175, 3) := by decide +kernel
theorem dX4_key_24 : decode cX4_key 24 = .ok (.dup, 1) := by decide +kernel
theorem dX4_key_25 : decode cX4_key 25 = .ok (.ldc 177, 2) := by decide +kernel
theorem dX4_key_27 : decode cX4_key 27 = .ok (.invokespecial 179, 3) := by decide +kernel
theorem dX4_key_30 : decode cX4_key 30 = .ok (.athrow, 1) := by decide +kernel
theorem dX4_key_31 : decode cX4_key 31 = .ok (.aload_n 0, 1) := by decide +kernel
theorem dX4_key_32 : decode cX4_key 32 = .ok (.getfield 27, 3) := by decide +kernel
theorem dX4_key_35 : decode cX4_key 35 = .ok (.iload_n 1, 1) := by decide +kernel
theorem dX4_key_36 : decode cX4_key 36 = .ok (.aaload, 1) := by decide +kernel
theorem dX4_key_37 : decode cX4_key 37 = .ok (.getfield 180, 3) := by decide +kernel
theorem dX4_key_40 : decode cX4_key 40 = .ok (.iload_n 2, 1) := by decide +kernel
theorem dX4_key_41 : decode cX4_key 41 = .ok (.iaload, 1) := by decide +kernel
theorem dX4_key_42 : decode cX4_key 42 = .ok (.ireturn, 1) := by decide +kernel
theorem dX4_points_0 : decode cX4_points 0 = .ok (.iload_n 1, 1) := by decide +kernel
theorem dX4_points_1 : decode cX4_points 1 = .ok (.invokestatic 101, 3) := by decide +kernel
theorem dX4_points_4 : decode cX4_points 4 = .ok (.aload_n 0, 1) := by decide +kernel
theorem dX4_points_5 : decode cX4_points 5 = .ok (.invokevirtual 50, 3) := by decide +kernel
theorem dX4_points_8 : decode cX4_points 8 = .ok (.aload_n 0, 1) := by decide +kernel
theorem dX4_points_9 : decode cX4_points 9 = .ok (.getfield 21, 3) := by decide +kernel
theorem dX4_points_12 : decode cX4_points 12 = .ok (.getfield 113, 3) := by decide +kernel
theorem dX4_points_15 : decode cX4_points 15 = .ok (.iload_n 1, 1) := by decide +kernel
theorem dX4_points_16 : decode cX4_points 16 = .ok (.iaload, 1) := by decide +kernel
theorem dX4_points_17 : decode cX4_points 17 = .ok (.ireturn, 1) := by decide +kernel
theorem dX4_count_0 : decode cX4_count 0 = .ok (.iload_n 1, 1) := by decide +kernel
theorem dX4_count_1 : decode cX4_count 1 = .ok (.ifCond .lt 8, 3) := by decide +kernel
theorem dX4_count_4 : decode cX4_count 4 = .ok (.iload_n 1, 1) := by decide +kernel
theorem dX4_count_5 : decode cX4_count 5 = .ok (.iconst 2, 1) := by decide +kernel
theorem dX4_count_6 : decode cX4_count 6 = .ok (.if_icmp .le 13, 3) := by decide +kernel
theorem dX4_count_9 : decode cX4_count 9 = .ok (.new 104, 3) := by decide +kernel
theorem dX4_count_12 : decode cX4_count 12 = .ok (.dup, 1) := by decide +kernel
theorem dX4_count_13 : decode cX4_count 13 = .ok (.ldc 183, 2) := by decide +kernel
theorem dX4_count_15 : decode cX4_count 15 = .ok (.invokespecial 108, 3) := by decide +kernel
theorem dX4_count_18 : decode cX4_count 18 = .ok (.athrow, 1) := by decide +kernel
theorem dX4_count_19 : decode cX4_count 19 = .ok (.aload_n 0, 1) := by decide +kernel
theorem dX4_count_20 : decode cX4_count 20 = .ok (.invokevirtual 50, 3) := by decide +kernel
theorem dX4_count_23 : decode cX4_count 23 = .ok (.iload_n 1, 1) := by decide +kernel
theorem dX4_count_24 : decode cX4_count 24 = .ok (.ifCond .ne 8, 3) := by decide +kernel
theorem dX4_count_27 : decode cX4_count 27 = .ok (.aload_n 0, 1) := by decide +kernel
theorem dX4_count_28 : decode cX4_count 28 = .ok (.getfield 64, 3) := by decide +kernel
theorem dX4_count_31 : decode cX4_count 31 = .ok (.ireturn, 1) := by decide +kernel
theorem dX4_count_32 : decode cX4_count 32 = .ok (.aload_n 0, 1) := by decide +kernel
theorem dX4_count_33 : decode cX4_count 33 = .ok (.getfield 34, 3) := by decide +kernel
theorem dX4_count_36 : decode cX4_count 36 = .ok (.getfield 109, 3) := by decide +kernel
theorem dX4_count_39 : decode cX4_count 39 = .ok (.ifCond .ne 5, 3) := by decide +kernel
theorem dX4_count_42 : decode cX4_count 42 = .ok (.iconst (-1), 1) := by decide +kernel
theorem dX4_count_43 : decode cX4_count 43 = .ok (.ireturn, 1) := by decide +kernel
theorem dX4_count_44 : decode cX4_count 44 = .ok (.iload_n 1, 1) := by decide +kernel
theorem dX4_count_45 : decode cX4_count 45 = .ok (.iconst 1, 1) := by decide +kernel
theorem dX4_count_46 : decode cX4_count 46 = .ok (.if_icmp .ne 13, 3) := by decide +kernel
theorem dX4_count_49 : decode cX4_count 49 = .ok (.aload_n 0, 1) := by decide +kernel
theorem dX4_count_50 : decode cX4_count 50 = .ok (.getfield 34, 3) := by decide +kernel
theorem dX4_count_53 : decode cX4_count 53 = .ok (.getfield 124, 3) := by decide +kernel
theorem dX4_count_56 : decode cX4_count 56 = .ok (.goto 10, 3) := by decide +kernel
theorem dX4_count_59 : decode cX4_count 59 = .ok (.aload_n 0, 1) := by decide +kernel
theorem dX4_count_60 : decode cX4_count 60 = .ok (.getfield 34, 3) := by decide +kernel
theorem dX4_count_63 : decode cX4_count 63 = .ok (.getfield 164, 3) := by decide +kernel
theorem dX4_count_66 : decode cX4_count 66 = .ok (.aload_n 0, 1) := by decide +kernel
theorem dX4_count_67 : decode cX4_count 67 = .ok (.getfield 34, 3) := by decide +kernel
theorem dX4_count_70 : decode cX4_count 70 = .ok (.getfield 135, 3) := by decide +kernel
theorem dX4_count_73 : decode cX4_count 73 = .ok (.isub, 1) := by decide +kernel
theorem dX4_count_74 : decode cX4_count 74 = .ok (.ireturn, 1) := by decide +kernel
theorem dX4_written_0 : decode cX4_written 0 = .ok (.iload_n 1, 1) := by decide +kernel
theorem dX4_written_1 : decode cX4_written 1 = .ok (.ifCond .eq 13, 3) := by decide +kernel
theorem dX4_written_4 : decode cX4_written 4 = .ok (.aload_n 0, 1) := by decide +kernel
theorem dX4_written_5 : decode cX4_written 5 = .ok (.getfield 41, 3) := by decide +kernel
theorem dX4_written_8 : decode cX4_written 8 = .ok (.getfield 185, 3) := by decide +kernel
theorem dX4_written_11 : decode cX4_written 11 = .ok (.goto 10, 3) := by decide +kernel
theorem dX4_written_14 : decode cX4_written 14 = .ok (.aload_n 0, 1) := by decide +kernel
theorem dX4_written_15 : decode cX4_written 15 = .ok (.getfield 41, 3) := by decide +kernel
theorem dX4_written_18 : decode cX4_written 18 = .ok (.getfield 188, 3) := by decide +kernel
theorem dX4_written_21 : decode cX4_written 21 = .ok (.ireturn, 1) := by decide +kernel
theorem dX4_share_0 : decode cX4_share 0 = .ok (.iload_n 1, 1) := by decide +kernel
theorem dX4_share_1 : decode cX4_share 1 = .ok (.invokestatic 101, 3) := by decide +kernel
theorem dX4_share_4 : decode cX4_share 4 = .ok (.aload_n 0, 1) := by decide +kernel
theorem dX4_share_5 : decode cX4_share 5 = .ok (.invokevirtual 50, 3) := by decide +kernel
theorem dX4_share_8 : decode cX4_share 8 = .ok (.aload_n 0, 1) := by decide +kernel
theorem dX4_share_9 : decode cX4_share 9 = .ok (.getfield 21, 3) := by decide +kernel
theorem dX4_share_12 : decode cX4_share 12 = .ok (.iload_n 1, 1) := by decide +kernel
theorem dX4_share_13 : decode cX4_share 13 = .ok (.invokevirtual 191, 3) := by decide +kernel
theorem dX4_share_16 : decode cX4_share 16 = .ok (.lreturn, 1) := by decide +kernel
theorem dX4_needPower_0 : decode cX4_needPower 0 = .ok (.aload_n 0, 1) := by decide +kernel
theorem dX4_needPower_1 : decode cX4_needPower 1 = .ok (.getfield 41, 3) := by decide +kernel
theorem dX4_needPower_4 : decode cX4_needPower 4 = .ok (.getfield 156, 3) := by decide +kernel
theorem dX4_needPower_7 : decode cX4_needPower 7 = .ok (.ifCond .eq 13, 3) := by decide +kernel
theorem dX4_needPower_10 : decode cX4_needPower 10 = .ok (.new 68, 3) := by decide +kernel
theorem dX4_needPower_13 : decode cX4_needPower 13 = .ok (.dup, 1) := by decide +kernel
theorem dX4_needPower_14 : decode cX4_needPower 14 = .ok (.ldc 195, 2) := by decide +kernel
theorem dX4_needPower_16 : decode cX4_needPower 16 = .ok (.invokespecial 72, 3) := by decide +kernel
theorem dX4_needPower_19 : decode cX4_needPower 19 = .ok (.athrow, 1) := by decide +kernel
theorem dX4_needPower_20 : decode cX4_needPower 20 = .ok (.return_, 1) := by decide +kernel
theorem dX4_needNode_0 : decode cX4_needNode 0 = .ok (.iload_n 0, 1) := by decide +kernel
theorem dX4_needNode_1 : decode cX4_needNode 1 = .ok (.ifCond .lt 9, 3) := by decide +kernel
theorem dX4_needNode_4 : decode cX4_needNode 4 = .ok (.iload_n 0, 1) := by decide +kernel
theorem dX4_needNode_5 : decode cX4_needNode 5 = .ok (.bipush 8, 2) := by decide +kernel
theorem dX4_needNode_7 : decode cX4_needNode 7 = .ok (.if_icmp .lt 13, 3) := by decide +kernel
theorem dX4_needNode_10 : decode cX4_needNode 10 = .ok (.new 175, 3) := by decide +kernel
theorem dX4_needNode_13 : decode cX4_needNode 13 = .ok (.dup, 1) := by decide +kernel
theorem dX4_needNode_14 : decode cX4_needNode 14 = .ok (.ldc 197, 2) := by decide +kernel
theorem dX4_needNode_16 : decode cX4_needNode 16 = .ok (.invokespecial 179, 3) := by decide +kernel
theorem dX4_needNode_19 : decode cX4_needNode 19 = .ok (.athrow, 1) := by decide +kernel
theorem dX4_needNode_20 : decode cX4_needNode 20 = .ok (.return_, 1) := by decide +kernel
theorem dX4_homeAt_0 : decode cX4_homeAt 0 = .ok (.aload_n 0, 1) := by decide +kernel
theorem dX4_homeAt_1 : decode cX4_homeAt 1 = .ok (.getfield 34, 3) := by decide +kernel
theorem dX4_homeAt_4 : decode cX4_homeAt 4 = .ok (.iload_n 1, 1) := by decide +kernel
theorem dX4_homeAt_5 : decode cX4_homeAt 5 = .ok (.invokevirtual 82, 3) := by decide +kernel
theorem dX4_homeAt_8 : decode cX4_homeAt 8 = .ok (.istore_n 3, 1) := by decide +kernel
theorem dX4_homeAt_9 : decode cX4_homeAt 9 = .ok (.iload_n 3, 1) := by decide +kernel
theorem dX4_homeAt_10 : decode cX4_homeAt 10 = .ok (.iconst 1, 1) := by decide +kernel
theorem dX4_homeAt_11 : decode cX4_homeAt 11 = .ok (.if_icmp .eq 8, 3) := by decide +kernel
theorem dX4_homeAt_14 : decode cX4_homeAt 14 = .ok (.iload_n 3, 1) := by decide +kernel
theorem dX4_homeAt_15 : decode cX4_homeAt 15 = .ok (.iconst 2, 1) := by decide +kernel
theorem dX4_homeAt_16 : decode cX4_homeAt 16 = .ok (.if_icmp .ne 15, 3) := by decide +kernel
theorem dX4_homeAt_19 : decode cX4_homeAt 19 = .ok (.aload_n 0, 1) := by decide +kernel
theorem dX4_homeAt_20 : decode cX4_homeAt 20 = .ok (.getfield 34, 3) := by decide +kernel
theorem dX4_homeAt_23 : decode cX4_homeAt 23 = .ok (.getfield 199, 3) := by decide +kernel
theorem dX4_homeAt_26 : decode cX4_homeAt 26 = .ok (.iload_n 1, 1) := by decide +kernel
theorem dX4_homeAt_27 : decode cX4_homeAt 27 = .ok (.iaload, 1) := by decide +kernel
theorem dX4_homeAt_28 : decode cX4_homeAt 28 = .ok (.goto 11, 3) := by decide +kernel
theorem dX4_homeAt_31 : decode cX4_homeAt 31 = .ok (.aload_n 0, 1) := by decide +kernel
theorem dX4_homeAt_32 : decode cX4_homeAt 32 = .ok (.getfield 21, 3) := by decide +kernel
theorem dX4_homeAt_35 : decode cX4_homeAt 35 = .ok (.iload_n 2, 1) := by decide +kernel
theorem dX4_homeAt_36 : decode cX4_homeAt 36 = .ok (.invokevirtual 171, 3) := by decide +kernel
theorem dX4_homeAt_39 : decode cX4_homeAt 39 = .ok (.ireturn, 1) := by decide +kernel
theorem dX4_makePlan_0 : decode cX4_makePlan 0 = .ok (.aload_n 0, 1) := by decide +kernel
theorem dX4_makePlan_1 : decode cX4_makePlan 1 = .ok (.getfield 34, 3) := by decide +kernel
theorem dX4_makePlan_4 : decode cX4_makePlan 4 = .ok (.iconst 1, 1) := by decide +kernel
theorem dX4_makePlan_5 : decode cX4_makePlan 5 = .ok (.putfield 109, 3) := by decide +kernel
theorem dX4_makePlan_8 : decode cX4_makePlan 8 = .ok (.iconst 0, 1) := by decide +kernel
theorem dX4_makePlan_9 : decode cX4_makePlan 9 = .ok (.istore_n 1, 1) := by decide +kernel
theorem dX4_makePlan_10 : decode cX4_makePlan 10 = .ok (.iload_n 1, 1) := by decide +kernel
theorem dX4_makePlan_11 : decode cX4_makePlan 11 = .ok (.bipush 8, 2) := by decide +kernel
theorem dX4_makePlan_13 : decode cX4_makePlan 13 = .ok (.if_icmp .ge 69, 3) := by decide +kernel
theorem dX4_makePlan_16 : decode cX4_makePlan 16 = .ok (.aload_n 0, 1) := by decide +kernel
theorem dX4_makePlan_17 : decode cX4_makePlan 17 = .ok (.getfield 27, 3) := by decide +kernel
theorem dX4_makePlan_20 : decode cX4_makePlan 20 = .ok (.iload_n 1, 1) := by decide +kernel
theorem dX4_makePlan_21 : decode cX4_makePlan 21 = .ok (.aaload, 1) := by decide +kernel
theorem dX4_makePlan_22 : decode cX4_makePlan 22 = .ok (.astore_n 2, 1) := by decide +kernel
theorem dX4_makePlan_23 : decode cX4_makePlan 23 = .ok (.iconst 0, 1) := by decide +kernel
theorem dX4_makePlan_24 : decode cX4_makePlan 24 = .ok (.istore_n 3, 1) := by decide +kernel
theorem dX4_makePlan_25 : decode cX4_makePlan 25 = .ok (.iload_n 3, 1) := by decide +kernel
theorem dX4_makePlan_26 : decode cX4_makePlan 26 = .ok (.aload_n 2, 1) := by decide +kernel
theorem dX4_makePlan_27 : decode cX4_makePlan 27 = .ok (.getfield 174, 3) := by decide +kernel
theorem dX4_makePlan_30 : decode cX4_makePlan 30 = .ok (.if_icmp .ge 46, 3) := by decide +kernel
theorem dX4_makePlan_33 : decode cX4_makePlan 33 = .ok (.aload_n 0, 1) := by decide +kernel
theorem dX4_makePlan_34 : decode cX4_makePlan 34 = .ok (.getfield 21, 3) := by decide +kernel
theorem dX4_makePlan_37 : decode cX4_makePlan 37 = .ok (.aload_n 2, 1) := by decide +kernel
theorem dX4_makePlan_38 : decode cX4_makePlan 38 = .ok (.getfield 180, 3) := by decide +kernel
theorem dX4_makePlan_41 : decode cX4_makePlan 41 = .ok (.iload_n 3, 1) := by decide +kernel
theorem dX4_makePlan_42 : decode cX4_makePlan 42 = .ok (.iaload, 1) := by decide +kernel
theorem dX4_makePlan_43 : decode cX4_makePlan 43 = .ok (.invokevirtual 171, 3) := by decide +kernel
theorem dX4_makePlan_46 : decode cX4_makePlan 46 = .ok (.istore 4, 2) := by decide +kernel
theorem dX4_makePlan_48 : decode cX4_makePlan 48 = .ok (.iload 4, 2) := by decide +kernel
theorem dX4_makePlan_50 : decode cX4_makePlan 50 = .ok (.iload_n 1, 1) := by decide +kernel
theorem dX4_makePlan_51 : decode cX4_makePlan 51 = .ok (.if_icmp .eq 19, 3) := by decide +kernel
theorem dX4_makePlan_54 : decode cX4_makePlan 54 = .ok (.aload_n 0, 1) := by decide +kernel
theorem dX4_makePlan_55 : decode cX4_makePlan 55 = .ok (.getfield 34, 3) := by decide +kernel
theorem dX4_makePlan_58 : decode cX4_makePlan 58 = .ok (.aload_n 2, 1) := by decide +kernel
theorem dX4_makePlan_59 : decode cX4_makePlan 59 = .ok (.getfield 180, 3) := by decide +kernel
theorem dX4_makePlan_62 : decode cX4_makePlan 62 = .ok (.iload_n 3, 1) := by decide +kernel
theorem dX4_makePlan_63 : decode cX4_makePlan 63 = .ok (.iaload, 1) := by decide +kernel
theorem dX4_makePlan_64 : decode cX4_makePlan 64 = .ok (.iload_n 1, 1) := by decide +kernel
theorem dX4_makePlan_65 : decode cX4_makePlan 65 = .ok (.iload 4, 2) := by decide +kernel
theorem dX4_makePlan_67 : decode cX4_makePlan 67 = .ok (.invokevirtual 202, 3) := by decide +kernel
theorem dX4_makePlan_70 : decode cX4_makePlan 70 = .ok (.iinc 3 1, 3) := by decide +kernel
theorem dX4_makePlan_73 : decode cX4_makePlan 73 = .ok (.goto (-48), 3) := by decide +kernel
theorem dX4_makePlan_76 : decode cX4_makePlan 76 = .ok (.iinc 1 1, 3) := by decide +kernel
theorem dX4_makePlan_79 : decode cX4_makePlan 79 = .ok (.goto (-69), 3) := by decide +kernel
theorem dX4_makePlan_82 : decode cX4_makePlan 82 = .ok (.return_, 1) := by decide +kernel
theorem dX4_copyToTarget_0 : decode cX4_copyToTarget 0 = .ok (.aload_n 0, 1) := by decide +kernel
theorem dX4_copyToTarget_1 : decode cX4_copyToTarget 1 = .ok (.getfield 41, 3) := by decide +kernel
theorem dX4_copyToTarget_4 : decode cX4_copyToTarget 4 = .ok (.invokevirtual 75, 3) := by decide +kernel
theorem dX4_copyToTarget_7 : decode cX4_copyToTarget 7 = .ok (.ifCond .ne 6, 3) := by decide +kernel
theorem dX4_copyToTarget_10 : decode cX4_copyToTarget 10 = .ok (.bipush (-9), 2) := by decide +kernel
theorem dX4_copyToTarget_12 : decode cX4_copyToTarget 12 = .ok (.ireturn, 1) := by decide +kernel
theorem dX4_copyToTarget_13 : decode cX4_copyToTarget 13 = .ok (.aload_n 0, 1) := by decide +kernel
theorem dX4_copyToTarget_14 : decode cX4_copyToTarget 14 = .ok (.getfield 34, 3) := by decide +kernel
theorem dX4_copyToTarget_17 : decode cX4_copyToTarget 17 = .ok (.getfield 206, 3) := by decide +kernel
theorem dX4_copyToTarget_20 : decode cX4_copyToTarget 20 = .ok (.iload_n 1, 1) := by decide +kernel
theorem dX4_copyToTarget_21 : decode cX4_copyToTarget 21 = .ok (.iaload, 1) := by decide +kernel
theorem dX4_copyToTarget_22 : decode cX4_copyToTarget 22 = .ok (.istore_n 2, 1) := by decide +kernel
theorem dX4_copyToTarget_23 : decode cX4_copyToTarget 23 = .ok (.aload_n 0, 1) := by decide +kernel
theorem dX4_copyToTarget_24 : decode cX4_copyToTarget 24 = .ok (.getfield 27, 3) := by decide +kernel
theorem dX4_copyToTarget_27 : decode cX4_copyToTarget 27 = .ok (.aload_n 0, 1) := by decide +kernel
theorem dX4_copyToTarget_28 : decode cX4_copyToTarget 28 = .ok (.getfield 34, 3) := by decide +kernel
theorem dX4_copyToTarget_31 : decode cX4_copyToTarget 31 = .ok (.getfield 199, 3) := by decide +kernel
theorem dX4_copyToTarget_34 : decode cX4_copyToTarget 34 = .ok (.iload_n 1, 1) := by decide +kernel
theorem dX4_copyToTarget_35 : decode cX4_copyToTarget 35 = .ok (.iaload, 1) := by decide +kernel
theorem dX4_copyToTarget_36 : decode cX4_copyToTarget 36 = .ok (.aaload, 1) := by decide +kernel
theorem dX4_copyToTarget_37 : decode cX4_copyToTarget 37 = .ok (.astore_n 3, 1) := by decide +kernel
theorem dX4_copyToTarget_38 : decode cX4_copyToTarget 38 = .ok (.aload_n 0, 1) := by decide +kernel
theorem dX4_copyToTarget_39 : decode cX4_copyToTarget 39 = .ok (.getfield 27, 3) := by decide +kernel
theorem dX4_copyToTarget_42 : decode cX4_copyToTarget 42 = .ok (.aload_n 0, 1) := by decide +kernel
theorem dX4_copyToTarget_43 : decode cX4_copyToTarget 43 = .ok (.getfield 34, 3) := by decide +kernel
theorem dX4_copyToTarget_46 : decode cX4_copyToTarget 46 = .ok (.getfield 85, 3) := by decide +kernel
theorem dX4_copyToTarget_49 : decode cX4_copyToTarget 49 = .ok (.iload_n 1, 1) := by decide +kernel
theorem dX4_copyToTarget_50 : decode cX4_copyToTarget 50 = .ok (.iaload, 1) := by decide +kernel
theorem dX4_copyToTarget_51 : decode cX4_copyToTarget 51 = .ok (.aaload, 1) := by decide +kernel
theorem dX4_copyToTarget_52 : decode cX4_copyToTarget 52 = .ok (.astore 4, 2) := by decide +kernel
theorem dX4_copyToTarget_54 : decode cX4_copyToTarget 54 = .ok (.aload_n 3, 1) := by decide +kernel
theorem dX4_copyToTarget_55 : decode cX4_copyToTarget 55 = .ok (.iload_n 2, 1) := by decide +kernel
theorem dX4_copyToTarget_56 : decode cX4_copyToTarget 56 = .ok (.invokevirtual 60, 3) := by decide +kernel
theorem dX4_copyToTarget_59 : decode cX4_copyToTarget 59 = .ok (.ifCond .eq 17, 3) := by decide +kernel
theorem dX4_copyToTarget_62 : decode cX4_copyToTarget 62 = .ok (.aload 4, 2) := by decide +kernel
theorem dX4_copyToTarget_64 : decode cX4_copyToTarget 64 = .ok (.iload_n 2, 1) := by decide +kernel
theorem dX4_copyToTarget_65 : decode cX4_copyToTarget 65 = .ok (.aload_n 3, 1) := by decide +kernel
theorem dX4_copyToTarget_66 : decode cX4_copyToTarget 66 = .ok (.iload_n 2, 1) := by decide +kernel
theorem dX4_copyToTarget_67 : decode cX4_copyToTarget 67 = .ok (.invokevirtual 98, 3) := by decide +kernel
theorem dX4_copyToTarget_70 : decode cX4_copyToTarget 70 = .ok (.invokevirtual 79, 3) := by decide +kernel
theorem dX4_copyToTarget_73 : decode cX4_copyToTarget 73 = .ok (.goto 9, 3) := by decide +kernel
theorem dX4_copyToTarget_76 : decode cX4_copyToTarget 76 = .ok (.aload 4, 2) := by decide +kernel
theorem dX4_copyToTarget_78 : decode cX4_copyToTarget 78 = .ok (.iload_n 2, 1) := by decide +kernel
theorem dX4_copyToTarget_79 : decode cX4_copyToTarget 79 = .ok (.invokevirtual 89, 3) := by decide +kernel
theorem dX4_copyToTarget_82 : decode cX4_copyToTarget 82 = .ok (.aload_n 0, 1) := by decide +kernel
theorem dX4_copyToTarget_83 : decode cX4_copyToTarget 83 = .ok (.getfield 34, 3) := by decide +kernel
theorem dX4_copyToTarget_86 : decode cX4_copyToTarget 86 = .ok (.iconst 1, 1) := by decide +kernel
theorem dX4_copyToTarget_87 : decode cX4_copyToTarget 87 = .ok (.putfield 207, 3) := by decide +kernel
theorem dX4_copyToTarget_90 : decode cX4_copyToTarget 90 = .ok (.iconst 2, 1) := by decide +kernel
theorem dX4_copyToTarget_91 : decode cX4_copyToTarget 91 = .ok (.ireturn, 1) := by decide +kernel
theorem dX4_flip_0 : decode cX4_flip 0 = .ok (.aload_n 0, 1) := by decide +kernel
theorem dX4_flip_1 : decode cX4_flip 1 = .ok (.getfield 41, 3) := by decide +kernel
theorem dX4_flip_4 : decode cX4_flip 4 = .ok (.invokevirtual 118, 3) := by decide +kernel
theorem dX4_flip_7 : decode cX4_flip 7 = .ok (.ifCond .ne 6, 3) := by decide +kernel
theorem dX4_flip_10 : decode cX4_flip 10 = .ok (.bipush (-9), 2) := by decide +kernel
theorem dX4_flip_12 : decode cX4_flip 12 = .ok (.ireturn, 1) := by decide +kernel
theorem dX4_flip_13 : decode cX4_flip 13 = .ok (.aload_n 0, 1) := by decide +kernel
theorem dX4_flip_14 : decode cX4_flip 14 = .ok (.getfield 34, 3) := by decide +kernel
theorem dX4_flip_17 : decode cX4_flip 17 = .ok (.dup, 1) := by decide +kernel
theorem dX4_flip_18 : decode cX4_flip 18 = .ok (.getfield 164, 3) := by decide +kernel
theorem dX4_flip_21 : decode cX4_flip 21 = .ok (.iconst 1, 1) := by decide +kernel
theorem dX4_flip_22 : decode cX4_flip 22 = .ok (.iadd, 1) := by decide +kernel
theorem dX4_flip_23 : decode cX4_flip 23 = .ok (.putfield 164, 3) := by decide +kernel
theorem dX4_flip_26 : decode cX4_flip 26 = .ok (.aload_n 0, 1) := by decide +kernel
theorem dX4_flip_27 : decode cX4_flip 27 = .ok (.getfield 34, 3) := by decide +kernel
theorem dX4_flip_30 : decode cX4_flip 30 = .ok (.iconst 0, 1) := by decide +kernel
theorem dX4_flip_31 : decode cX4_flip 31 = .ok (.putfield 207, 3) := by decide +kernel
theorem dX4_flip_34 : decode cX4_flip 34 = .ok (.iconst 3, 1) := by decide +kernel
theorem dX4_flip_35 : decode cX4_flip 35 = .ok (.ireturn, 1) := by decide +kernel
theorem dX4_takeOffSource_0 : decode cX4_takeOffSource 0 = .ok (.aload_n 0, 1) := by decide +kernel
theorem dX4_takeOffSource_1 : decode cX4_takeOffSource 1 = .ok (.getfield 41, 3) := by decide +kernel
theorem dX4_takeOffSource_4 : decode cX4_takeOffSource 4 = .ok (.invokevirtual 75, 3) := by decide +kernel
theorem dX4_takeOffSource_7 : decode cX4_takeOffSource 7 = .ok (.ifCond .ne 6, 3) := by decide +kernel
theorem dX4_takeOffSource_10 : decode cX4_takeOffSource 10 = .ok (.bipush (-9), 2) := by decide +kernel
theorem dX4_takeOffSource_12 : decode cX4_takeOffSource 12 = .ok (.ireturn, 1) := by decide +kernel
theorem dX4_takeOffSource_13 : decode cX4_takeOffSource 13 = .ok (.aload_n 0, 1) := by decide +kernel
theorem dX4_takeOffSource_14 : decode cX4_takeOffSource 14 = .ok (.getfield 27, 3) := by decide +kernel
theorem dX4_takeOffSource_17 : decode cX4_takeOffSource 17 = .ok (.aload_n 0, 1) := by decide +kernel
theorem dX4_takeOffSource_18 : decode cX4_takeOffSource 18 = .ok (.getfield 34, 3) := by decide +kernel
theorem dX4_takeOffSource_21 : decode cX4_takeOffSource 21 = .ok (.getfield 199, 3) := by decide +kernel
theorem dX4_takeOffSource_24 : decode cX4_takeOffSource 24 = .ok (.iload_n 1, 1) := by decide +kernel
theorem dX4_takeOffSource_25 : decode cX4_takeOffSource 25 = .ok (.iaload, 1) := by decide +kernel
theorem dX4_takeOffSource_26 : decode cX4_takeOffSource 26 = .ok (.aaload, 1) := by decide +kernel
theorem dX4_takeOffSource_27 : decode cX4_takeOffSource 27 = .ok (.aload_n 0, 1) := by decide +kernel
theorem dX4_takeOffSource_28 : decode cX4_takeOffSource 28 = .ok (.getfield 34, 3) := by decide +kernel
theorem dX4_takeOffSource_31 : decode cX4_takeOffSource 31 = .ok (.getfield 206, 3) := by decide +kernel
theorem dX4_takeOffSource_34 : decode cX4_takeOffSource 34 = .ok (.iload_n 1, 1) := by decide +kernel
theorem dX4_takeOffSource_35 : decode cX4_takeOffSource 35 = .ok (.iaload, 1) := by decide +kernel
theorem dX4_takeOffSource_36 : decode cX4_takeOffSource 36 = .ok (.invokevirtual 89, 3) := by decide +kernel
theorem dX4_takeOffSource_39 : decode cX4_takeOffSource 39 = .ok (.aload_n 0, 1) := by decide +kernel
theorem dX4_takeOffSource_40 : decode cX4_takeOffSource 40 = .ok (.getfield 34, 3) := by decide +kernel
theorem dX4_takeOffSource_43 : decode cX4_takeOffSource 43 = .ok (.dup, 1) := by decide +kernel
theorem dX4_takeOffSource_44 : decode cX4_takeOffSource 44 = .ok (.getfield 135, 3) := by decide +kernel
theorem dX4_takeOffSource_47 : decode cX4_takeOffSource 47 = .ok (.iconst 1, 1) := by decide +kernel
theorem dX4_takeOffSource_48 : decode cX4_takeOffSource 48 = .ok (.iadd, 1) := by decide +kernel
theorem dX4_takeOffSource_49 : decode cX4_takeOffSource 49 = .ok (.putfield 135, 3) := by decide +kernel
theorem dX4_takeOffSource_52 : decode cX4_takeOffSource 52 = .ok (.iconst 4, 1) := by decide +kernel
theorem dX4_takeOffSource_53 : decode cX4_takeOffSource 53 = .ok (.ireturn, 1) := by decide +kernel
theorem dX4_endPlan_0 : decode cX4_endPlan 0 = .ok (.aload_n 0, 1) := by decide +kernel
theorem dX4_endPlan_1 : decode cX4_endPlan 1 = .ok (.getfield 41, 3) := by decide +kernel
theorem dX4_endPlan_4 : decode cX4_endPlan 4 = .ok (.invokevirtual 118, 3) := by decide +kernel
theorem dX4_endPlan_7 : decode cX4_endPlan 7 = .ok (.ifCond .ne 6, 3) := by decide +kernel
theorem dX4_endPlan_10 : decode cX4_endPlan 10 = .ok (.bipush (-9), 2) := by decide +kernel
theorem dX4_endPlan_12 : decode cX4_endPlan 12 = .ok (.ireturn, 1) := by decide +kernel
theorem dX4_endPlan_13 : decode cX4_endPlan 13 = .ok (.aload_n 0, 1) := by decide +kernel
theorem dX4_endPlan_14 : decode cX4_endPlan 14 = .ok (.getfield 34, 3) := by decide +kernel
theorem dX4_endPlan_17 : decode cX4_endPlan 17 = .ok (.invokevirtual 210, 3) := by decide +kernel
theorem dX4_endPlan_20 : decode cX4_endPlan 20 = .ok (.iconst 0, 1) := by decide +kernel
theorem dX4_endPlan_21 : decode cX4_endPlan 21 = .ok (.ireturn, 1) := by decide +kernel
theorem dX4_placeOf_0 : decode cX4_placeOf 0 = .ok (.lload_n 0, 1) := by decide +kernel
theorem dX4_placeOf_1 : decode cX4_placeOf 1 = .ok (.lload_n 0, 1) := by decide +kernel
theorem dX4_placeOf_2 : decode cX4_placeOf 2 = .ok (.bipush 29, 2) := by decide +kernel
theorem dX4_placeOf_4 : decode cX4_placeOf 4 = .ok (.lushr, 1) := by decide +kernel
theorem dX4_placeOf_5 : decode cX4_placeOf 5 = .ok (.lxor, 1) := by decide +kernel
theorem dX4_placeOf_6 : decode cX4_placeOf 6 = .ok (.ldc2_w 213, 3) := by decide +kernel
theorem dX4_placeOf_9 : decode cX4_placeOf 9 = .ok (.lmul, 1) := by decide +kernel
theorem dX4_placeOf_10 : decode cX4_placeOf 10 = .ok (.bipush 33, 2) := by decide +kernel
theorem dX4_placeOf_12 : decode cX4_placeOf 12 = .ok (.lushr, 1) := by decide +kernel
theorem dX4_placeOf_13 : decode cX4_placeOf 13 = .ok (.l2i, 1) := by decide +kernel
theorem dX4_placeOf_14 : decode cX4_placeOf 14 = .ok (.ireturn, 1) := by decide +kernel
theorem dX4_below_0 : decode cX4_below 0 = .ok (.iconst 0, 1) := by decide +kernel
theorem dX4_below_1 : decode cX4_below 1 = .ok (.istore_n 3, 1) := by decide +kernel
theorem dX4_below_2 : decode cX4_below 2 = .ok (.iload_n 1, 1) := by decide +kernel
theorem dX4_below_3 : decode cX4_below 3 = .ok (.invokestatic 215, 3) := by decide +kernel
theorem dX4_below_6 : decode cX4_below 6 = .ok (.istore 4, 2) := by decide +kernel
theorem dX4_below_8 : decode cX4_below 8 = .ok (.iload 4, 2) := by decide +kernel
theorem dX4_below_10 : decode cX4_below 10 = .ok (.ifCond .le 37, 3) := by decide +kernel
theorem dX4_below_13 : decode cX4_below 13 = .ok (.iload_n 3, 1) := by decide +kernel
theorem dX4_below_14 : decode cX4_below 14 = .ok (.iload 4, 2) := by decide +kernel
theorem dX4_below_16 : decode cX4_below 16 = .ok (.iadd, 1) := by decide +kernel
theorem dX4_below_17 : decode cX4_below 17 = .ok (.iload_n 1, 1) := by decide +kernel
theorem dX4_below_18 : decode cX4_below 18 = .ok (.if_icmp .gt 20, 3) := by decide +kernel
theorem dX4_below_21 : decode cX4_below 21 = .ok (.aload_n 0, 1) := by decide +kernel
theorem dX4_below_22 : decode cX4_below 22 = .ok (.iload_n 3, 1) := by decide +kernel
theorem dX4_below_23 : decode cX4_below 23 = .ok (.iload 4, 2) := by decide +kernel
theorem dX4_below_25 : decode cX4_below 25 = .ok (.iadd, 1) := by decide +kernel
theorem dX4_below_26 : decode cX4_below 26 = .ok (.iconst 1, 1) := by decide +kernel
theorem dX4_below_27 : decode cX4_below 27 = .ok (.isub, 1) := by decide +kernel
theorem dX4_below_28 : decode cX4_below 28 = .ok (.iaload, 1) := by decide +kernel
theorem dX4_below_29 : decode cX4_below 29 = .ok (.iload_n 2, 1) := by decide +kernel
theorem dX4_below_30 : decode cX4_below 30 = .ok (.if_icmp .ge 8, 3) := by decide +kernel
theorem dX4_below_33 : decode cX4_below 33 = .ok (.iload_n 3, 1) := by decide +kernel
theorem dX4_below_34 : decode cX4_below 34 = .ok (.iload 4, 2) := by decide +kernel
theorem dX4_below_36 : decode cX4_below 36 = .ok (.iadd, 1) := by decide +kernel
theorem dX4_below_37 : decode cX4_below 37 = .ok (.istore_n 3, 1) := by decide +kernel
theorem dX4_below_38 : decode cX4_below 38 = .ok (.iload 4, 2) := by decide +kernel
theorem dX4_below_40 : decode cX4_below 40 = .ok (.iconst 1, 1) := by decide +kernel
theorem dX4_below_41 : decode cX4_below 41 = .ok (.ishr, 1) := by decide +kernel
theorem dX4_below_42 : decode cX4_below 42 = .ok (.istore 4, 2) := by decide +kernel
theorem dX4_below_44 : decode cX4_below 44 = .ok (.goto (-36), 3) := by decide +kernel
theorem dX4_below_47 : decode cX4_below 47 = .ok (.iload_n 3, 1) := by decide +kernel
theorem dX4_below_48 : decode cX4_below 48 = .ok (.ireturn, 1) := by decide +kernel
theorem dX4_inserted_0 : decode cX4_inserted 0 = .ok (.iload_n 1, 1) := by decide +kernel
theorem dX4_inserted_1 : decode cX4_inserted 1 = .ok (.aload_n 0, 1) := by decide +kernel
theorem dX4_inserted_2 : decode cX4_inserted 2 = .ok (.arraylength, 1) := by decide +kernel
theorem dX4_inserted_3 : decode cX4_inserted 3 = .ok (.if_icmp .ge 7, 3) := by decide +kernel
theorem dX4_inserted_6 : decode cX4_inserted 6 = .ok (.aload_n 0, 1) := by decide +kernel
theorem dX4_inserted_7 : decode cX4_inserted 7 = .ok (.goto 12, 3) := by decide +kernel
theorem dX4_inserted_10 : decode cX4_inserted 10 = .ok (.aload_n 0, 1) := by decide +kernel
theorem dX4_inserted_11 : decode cX4_inserted 11 = .ok (.iconst 2, 1) := by decide +kernel
theorem dX4_inserted_12 : decode cX4_inserted 12 = .ok (.iload_n 1, 1) := by decide +kernel
theorem dX4_inserted_13 : decode cX4_inserted 13 = .ok (.imul, 1) := by decide +kernel
theorem dX4_inserted_14 : decode cX4_inserted 14 = .ok (.iconst 1, 1) := by decide +kernel
theorem dX4_inserted_15 : decode cX4_inserted 15 = .ok (.iadd, 1) := by decide +kernel
theorem dX4_inserted_16 : decode cX4_inserted 16 = .ok (.invokestatic 220, 3) := by decide +kernel
theorem dX4_inserted_19 : decode cX4_inserted 19 = .ok (.astore 4, 2) := by decide +kernel
theorem dX4_inserted_21 : decode cX4_inserted 21 = .ok (.aload 4, 2) := by decide +kernel
theorem dX4_inserted_23 : decode cX4_inserted 23 = .ok (.iload_n 2, 1) := by decide +kernel
theorem dX4_inserted_24 : decode cX4_inserted 24 = .ok (.aload 4, 2) := by decide +kernel
theorem dX4_inserted_26 : decode cX4_inserted 26 = .ok (.iload_n 2, 1) := by decide +kernel
theorem dX4_inserted_27 : decode cX4_inserted 27 = .ok (.iconst 1, 1) := by decide +kernel
theorem dX4_inserted_28 : decode cX4_inserted 28 = .ok (.iadd, 1) := by decide +kernel
theorem dX4_inserted_29 : decode cX4_inserted 29 = .ok (.iload_n 1, 1) := by decide +kernel
theorem dX4_inserted_30 : decode cX4_inserted 30 = .ok (.iload_n 2, 1) := by decide +kernel
theorem dX4_inserted_31 : decode cX4_inserted 31 = .ok (.isub, 1) := by decide +kernel
theorem dX4_inserted_32 : decode cX4_inserted 32 = .ok (.invokestatic 226, 3) := by decide +kernel
theorem dX4_inserted_35 : decode cX4_inserted 35 = .ok (.aload 4, 2) := by decide +kernel
theorem dX4_inserted_37 : decode cX4_inserted 37 = .ok (.iload_n 2, 1) := by decide +kernel
theorem dX4_inserted_38 : decode cX4_inserted 38 = .ok (.iload_n 3, 1) := by decide +kernel
theorem dX4_inserted_39 : decode cX4_inserted 39 = .ok (.iastore, 1) := by decide +kernel
theorem dX4_inserted_40 : decode cX4_inserted 40 = .ok (.aload 4, 2) := by decide +kernel
theorem dX4_inserted_42 : decode cX4_inserted 42 = .ok (.areturn, 1) := by decide +kernel
