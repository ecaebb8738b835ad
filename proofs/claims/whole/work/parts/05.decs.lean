theorem dJ6_highestOneBit_0f7a4_0 : decode cJ6_highestOneBit_0f7a4 0 = .ok (.iload_n 0, 1) := by decide +kernel
theorem dJ6_highestOneBit_0f7a4_1 : decode cJ6_highestOneBit_0f7a4 1 = .ok (.ldc 127, 2) := by decide +kernel
theorem dJ6_highestOneBit_0f7a4_3 : decode cJ6_highestOneBit_0f7a4 3 = .ok (.iload_n 0, 1) := by decide +kernel
theorem dJ6_highestOneBit_0f7a4_4 : decode cJ6_highestOneBit_0f7a4 4 = .ok (.invokestatic 51, 3) := by decide +kernel
theorem dJ6_highestOneBit_0f7a4_7 : decode cJ6_highestOneBit_0f7a4 7 = .ok (.iushr, 1) := by decide +kernel
theorem dJ6_highestOneBit_0f7a4_8 : decode cJ6_highestOneBit_0f7a4 8 = .ok (.iand, 1) := by decide +kernel
theorem dJ6_highestOneBit_0f7a4_9 : decode cJ6_highestOneBit_0f7a4 9 = .ok (.ireturn, 1) := by decide +kernel
theorem dJ6_numberOfLeadingZeros_0f7a4_0 : decode cJ6_numberOfLeadingZeros_0f7a4 0 = .ok (.iload_n 0, 1) := by decide +kernel
theorem dJ6_numberOfLeadingZeros_0f7a4_1 : decode cJ6_numberOfLeadingZeros_0f7a4 1 = .ok (.ifCond .gt 14, 3) := by decide +kernel
theorem dJ6_numberOfLeadingZeros_0f7a4_4 : decode cJ6_numberOfLeadingZeros_0f7a4 4 = .ok (.iload_n 0, 1) := by decide +kernel
theorem dJ6_numberOfLeadingZeros_0f7a4_5 : decode cJ6_numberOfLeadingZeros_0f7a4 5 = .ok (.ifCond .ne 8, 3) := by decide +kernel
theorem dJ6_numberOfLeadingZeros_0f7a4_8 : decode cJ6_numberOfLeadingZeros_0f7a4 8 = .ok (.bipush 32, 2) := by decide +kernel
theorem dJ6_numberOfLeadingZeros_0f7a4_10 : decode cJ6_numberOfLeadingZeros_0f7a4 10 = .ok (.goto 4, 3) := by decide +kernel
theorem dJ6_numberOfLeadingZeros_0f7a4_13 : decode cJ6_numberOfLeadingZeros_0f7a4 13 = .ok (.iconst 0, 1) := by decide +kernel
theorem dJ6_numberOfLeadingZeros_0f7a4_14 : decode cJ6_numberOfLeadingZeros_0f7a4 14 = .ok (.ireturn, 1) := by decide +kernel
theorem dJ6_numberOfLeadingZeros_0f7a4_15 : decode cJ6_numberOfLeadingZeros_0f7a4 15 = .ok (.bipush 31, 2) := by decide +kernel
theorem dJ6_numberOfLeadingZeros_0f7a4_17 : decode cJ6_numberOfLeadingZeros_0f7a4 17 = .ok (.istore_n 1, 1) := by decide +kernel
theorem dJ6_numberOfLeadingZeros_0f7a4_18 : decode cJ6_numberOfLeadingZeros_0f7a4 18 = .ok (.iload_n 0, 1) := by decide +kernel
theorem dJ6_numberOfLeadingZeros_0f7a4_19 : decode cJ6_numberOfLeadingZeros_0f7a4 19 = .ok (.ldc_w 264, 3) := by decide +kernel
theorem dJ6_numberOfLeadingZeros_0f7a4_22 : decode cJ6_numberOfLeadingZeros_0f7a4 22 = .ok (.if_icmp .lt 11, 3) := by decide +kernel
theorem dJ6_numberOfLeadingZeros_0f7a4_25 : decode cJ6_numberOfLeadingZeros_0f7a4 25 = .ok (.iinc 1 (-16), 3) := by decide +kernel
theorem dJ6_numberOfLeadingZeros_0f7a4_28 : decode cJ6_numberOfLeadingZeros_0f7a4 28 = .ok (.iload_n 0, 1) := by decide +kernel
theorem dJ6_numberOfLeadingZeros_0f7a4_29 : decode cJ6_numberOfLeadingZeros_0f7a4 29 = .ok (.bipush 16, 2) := by decide +kernel
theorem dJ6_numberOfLeadingZeros_0f7a4_31 : decode cJ6_numberOfLeadingZeros_0f7a4 31 = .ok (.iushr, 1) := by decide +kernel
theorem dJ6_numberOfLeadingZeros_0f7a4_32 : decode cJ6_numberOfLeadingZeros_0f7a4 32 = .ok (.istore_n 0, 1) := by decide +kernel
theorem dJ6_numberOfLeadingZeros_0f7a4_33 : decode cJ6_numberOfLeadingZeros_0f7a4 33 = .ok (.iload_n 0, 1) := by decide +kernel
theorem dJ6_numberOfLeadingZeros_0f7a4_34 : decode cJ6_numberOfLeadingZeros_0f7a4 34 = .ok (.sipush 256, 3) := by decide +kernel
theorem dJ6_numberOfLeadingZeros_0f7a4_37 : decode cJ6_numberOfLeadingZeros_0f7a4 37 = .ok (.if_icmp .lt 11, 3) := by decide +kernel
theorem dJ6_numberOfLeadingZeros_0f7a4_40 : decode cJ6_numberOfLeadingZeros_0f7a4 40 = .ok (.iinc 1 (-8), 3) := by decide +kernel
theorem dJ6_numberOfLeadingZeros_0f7a4_43 : decode cJ6_numberOfLeadingZeros_0f7a4 43 = .ok (.iload_n 0, 1) := by decide +kernel
theorem dJ6_numberOfLeadingZeros_0f7a4_44 : decode cJ6_numberOfLeadingZeros_0f7a4 44 = .ok (.bipush 8, 2) := by decide +kernel
theorem dJ6_numberOfLeadingZeros_0f7a4_46 : decode cJ6_numberOfLeadingZeros_0f7a4 46 = .ok (.iushr, 1) := by decide +kernel
theorem dJ6_numberOfLeadingZeros_0f7a4_47 : decode cJ6_numberOfLeadingZeros_0f7a4 47 = .ok (.istore_n 0, 1) := by decide +kernel
theorem dJ6_numberOfLeadingZeros_0f7a4_48 : decode cJ6_numberOfLeadingZeros_0f7a4 48 = .ok (.iload_n 0, 1) := by decide +kernel
theorem dJ6_numberOfLeadingZeros_0f7a4_49 : decode cJ6_numberOfLeadingZeros_0f7a4 49 = .ok (.bipush 16, 2) := by decide +kernel
theorem dJ6_numberOfLeadingZeros_0f7a4_51 : decode cJ6_numberOfLeadingZeros_0f7a4 51 = .ok (.if_icmp .lt 10, 3) := by decide +kernel
theorem dJ6_numberOfLeadingZeros_0f7a4_54 : decode cJ6_numberOfLeadingZeros_0f7a4 54 = .ok (.iinc 1 (-4), 3) := by decide +kernel
theorem dJ6_numberOfLeadingZeros_0f7a4_57 : decode cJ6_numberOfLeadingZeros_0f7a4 57 = .ok (.iload_n 0, 1) := by decide +kernel
theorem dJ6_numberOfLeadingZeros_0f7a4_58 : decode cJ6_numberOfLeadingZeros_0f7a4 58 = .ok (.iconst 4, 1) := by decide +kernel
theorem dJ6_numberOfLeadingZeros_0f7a4_59 : decode cJ6_numberOfLeadingZeros_0f7a4 59 = .ok (.iushr, 1) := by decide +kernel
theorem dJ6_numberOfLeadingZeros_0f7a4_60 : decode cJ6_numberOfLeadingZeros_0f7a4 60 = .ok (.istore_n 0, 1) := by decide +kernel
theorem dJ6_numberOfLeadingZeros_0f7a4_61 : decode cJ6_numberOfLeadingZeros_0f7a4 61 = .ok (.iload_n 0, 1) := by decide +kernel
theorem dJ6_numberOfLeadingZeros_0f7a4_62 : decode cJ6_numberOfLeadingZeros_0f7a4 62 = .ok (.iconst 4, 1) := by decide +kernel
theorem dJ6_numberOfLeadingZeros_0f7a4_63 : decode cJ6_numberOfLeadingZeros_0f7a4 63 = .ok (.if_icmp .lt 10, 3) := by decide +kernel
theorem dJ6_numberOfLeadingZeros_0f7a4_66 : decode cJ6_numberOfLeadingZeros_0f7a4 66 = .ok (.iinc 1 (-2), 3) := by decide +kernel
theorem dJ6_numberOfLeadingZeros_0f7a4_69 : decode cJ6_numberOfLeadingZeros_0f7a4 69 = .ok (.iload_n 0, 1) := by decide +kernel
theorem dJ6_numberOfLeadingZeros_0f7a4_70 : decode cJ6_numberOfLeadingZeros_0f7a4 70 = .ok (.iconst 2, 1) := by decide +kernel
theorem dJ6_numberOfLeadingZeros_0f7a4_71 : decode cJ6_numberOfLeadingZeros_0f7a4 71 = .ok (.iushr, 1) := by decide +kernel
theorem dJ6_numberOfLeadingZeros_0f7a4_72 : decode cJ6_numberOfLeadingZeros_0f7a4 72 = .ok (.istore_n 0, 1) := by decide +kernel
theorem dJ6_numberOfLeadingZeros_0f7a4_73 : decode cJ6_numberOfLeadingZeros_0f7a4 73 = .ok (.iload_n 1, 1) := by decide +kernel
theorem dJ6_numberOfLeadingZeros_0f7a4_74 : decode cJ6_numberOfLeadingZeros_0f7a4 74 = .ok (.iload_n 0, 1) := by decide +kernel
theorem dJ6_numberOfLeadingZeros_0f7a4_75 : decode cJ6_numberOfLeadingZeros_0f7a4 75 = .ok (.iconst 1, 1) := by decide +kernel
theorem dJ6_numberOfLeadingZeros_0f7a4_76 : decode cJ6_numberOfLeadingZeros_0f7a4 76 = .ok (.iushr, 1) := by decide +kernel
theorem dJ6_numberOfLeadingZeros_0f7a4_77 : decode cJ6_numberOfLeadingZeros_0f7a4 77 = .ok (.isub, 1) := by decide +kernel
theorem dJ6_numberOfLeadingZeros_0f7a4_78 : decode cJ6_numberOfLeadingZeros_0f7a4 78 = .ok (.ireturn, 1) := by decide +kernel
theorem dJ9_max_7cf53_0 : decode cJ9_max_7cf53 0 = .ok (.iload_n 0, 1) := by decide +kernel
theorem dJ9_max_7cf53_1 : decode cJ9_max_7cf53 1 = .ok (.iload_n 1, 1) := by decide +kernel
theorem dJ9_max_7cf53_2 : decode cJ9_max_7cf53 2 = .ok (.if_icmp .lt 7, 3) := by decide +kernel
theorem dJ9_max_7cf53_5 : decode cJ9_max_7cf53 5 = .ok (.iload_n 0, 1) := by decide +kernel
theorem dJ9_max_7cf53_6 : decode cJ9_max_7cf53 6 = .ok (.goto 4, 3) := by decide +kernel
theorem dJ9_max_7cf53_9 : decode cJ9_max_7cf53 9 = .ok (.iload_n 1, 1) := by decide +kernel
theorem dJ9_max_7cf53_10 : decode cJ9_max_7cf53 10 = .ok (.ireturn, 1) := by decide +kernel
theorem dJ9_min_7cf53_0 : decode cJ9_min_7cf53 0 = .ok (.iload_n 0, 1) := by decide +kernel
theorem dJ9_min_7cf53_1 : decode cJ9_min_7cf53 1 = .ok (.iload_n 1, 1) := by decide +kernel
theorem dJ9_min_7cf53_2 : decode cJ9_min_7cf53 2 = .ok (.if_icmp .gt 7, 3) := by decide +kernel
theorem dJ9_min_7cf53_5 : decode cJ9_min_7cf53 5 = .ok (.iload_n 0, 1) := by decide +kernel
theorem dJ9_min_7cf53_6 : decode cJ9_min_7cf53 6 = .ok (.goto 4, 3) := by decide +kernel
theorem dJ9_min_7cf53_9 : decode cJ9_min_7cf53 9 = .ok (.iload_n 1, 1) := by decide +kernel
theorem dJ9_min_7cf53_10 : decode cJ9_min_7cf53 10 = .ok (.ireturn, 1) := by decide +kernel
theorem dJ7_copyOf_59c91_0 : decode cJ7_copyOf_59c91 0 = .ok (.iload_n 1, 1) := by decide +kernel
theorem dJ7_copyOf_59c91_1 : decode cJ7_copyOf_59c91 1 = .ok (.aload_n 0, 1) := by decide +kernel
theorem dJ7_copyOf_59c91_2 : decode cJ7_copyOf_59c91 2 = .ok (.arraylength, 1) := by decide +kernel
theorem dJ7_copyOf_59c91_3 : decode cJ7_copyOf_59c91 3 = .ok (.if_icmp .ne 11, 3) := by decide +kernel
theorem dJ7_copyOf_59c91_6 : decode cJ7_copyOf_59c91 6 = .ok (.aload_n 0, 1) := by decide +kernel
theorem dJ7_copyOf_59c91_7 : decode cJ7_copyOf_59c91 7 = .ok (.invokevirtual 316, 3) := by decide +kernel
theorem dJ7_copyOf_59c91_10 : decode cJ7_copyOf_59c91 10 = .ok (.checkcast 317, 3) := by decide +kernel
theorem dJ7_copyOf_59c91_13 : decode cJ7_copyOf_59c91 13 = .ok (.areturn, 1) := by decide +kernel
theorem dJ7_copyOf_59c91_14 : decode cJ7_copyOf_59c91 14 = .ok (.iload_n 1, 1) := by decide +kernel
theorem dJ7_copyOf_59c91_15 : decode cJ7_copyOf_59c91 15 = .ok (.newarray .int, 2) := by decide +kernel
theorem dJ7_copyOf_59c91_17 : decode cJ7_copyOf_59c91 17 = .ok (.astore_n 2, 1) := by decide +kernel
theorem dJ7_copyOf_59c91_18 : decode cJ7_copyOf_59c91 18 = .ok (.aload_n 0, 1) := by decide +kernel
theorem dJ7_copyOf_59c91_19 : decode cJ7_copyOf_59c91 19 = .ok (.iconst 0, 1) := by decide +kernel
theorem dJ7_copyOf_59c91_20 : decode cJ7_copyOf_59c91 20 = .ok (.aload_n 2, 1) := by decide +kernel
theorem dJ7_copyOf_59c91_21 : decode cJ7_copyOf_59c91 21 = .ok (.iconst 0, 1) := by decide +kernel
theorem dJ7_copyOf_59c91_22 : decode cJ7_copyOf_59c91 22 = .ok (.aload_n 0, 1) := by decide +kernel
theorem dJ7_copyOf_59c91_23 : decode cJ7_copyOf_59c91 23 = .ok (.arraylength, 1) := by decide +kernel
theorem dJ7_copyOf_59c91_24 : decode cJ7_copyOf_59c91 24 = .ok (.iload_n 1, 1) := by decide +kernel
theorem dJ7_copyOf_59c91_25 : decode cJ7_copyOf_59c91 25 = .ok (.invokestatic 304, 3) := by decide +kernel
theorem dJ7_copyOf_59c91_28 : decode cJ7_copyOf_59c91 28 = .ok (.invokestatic 150, 3) := by decide +kernel
theorem dJ7_copyOf_59c91_31 : decode cJ7_copyOf_59c91 31 = .ok (.aload_n 2, 1) := by decide +kernel
theorem dJ7_copyOf_59c91_32 : decode cJ7_copyOf_59c91 32 = .ok (.areturn, 1) := by decide +kernel
theorem dX0_init_0 : decode cX0_init 0 = .ok (.aload_n 0, 1) := by decide +kernel
theorem dX0_init_1 : decode cX0_init 1 = .ok (.invokespecial 3, 3) := by decide +kernel
theorem dX0_init_4 : decode cX0_init 4 = .ok (.aload_n 0, 1) := by decide +kernel
theorem dX0_init_5 : decode cX0_init 5 = .ok (.bipush 32, 2) := by decide +kernel
theorem dX0_init_7 : decode cX0_init 7 = .ok (.newarray .int, 2) := by decide +kernel
theorem dX0_init_9 : decode cX0_init 9 = .ok (.putfield 9, 3) := by decide +kernel
theorem dX0_init_12 : decode cX0_init 12 = .ok (.aload_n 0, 1) := by decide +kernel
theorem dX0_init_13 : decode cX0_init 13 = .ok (.bipush 32, 2) := by decide +kernel
theorem dX0_init_15 : decode cX0_init 15 = .ok (.newarray .int, 2) := by decide +kernel
theorem dX0_init_17 : decode cX0_init 17 = .ok (.putfield 15, 3) := by decide +kernel
theorem dX0_init_20 : decode cX0_init 20 = .ok (.aload_n 0, 1) := by decide +kernel
theorem dX0_init_21 : decode cX0_init 21 = .ok (.bipush 32, 2) := by decide +kernel
theorem dX0_init_23 : decode cX0_init 23 = .ok (.newarray .int, 2) := by decide +kernel
theorem dX0_init_25 : decode cX0_init 25 = .ok (.putfield 18, 3) := by decide +kernel
theorem dX0_init_28 : decode cX0_init 28 = .ok (.return_, 1) := by decide +kernel
theorem dX0_end_0 : decode cX0_end 0 = .ok (.aload_n 0, 1) := by decide +kernel
theorem dX0_end_1 : decode cX0_end 1 = .ok (.iconst 0, 1) := by decide +kernel
theorem dX0_end_2 : decode cX0_end 2 = .ok (.putfield 21, 3) := by decide +kernel
theorem dX0_end_5 : decode cX0_end 5 = .ok (.aload_n 0, 1) := by decide +kernel
theorem dX0_end_6 : decode cX0_end 6 = .ok (.iconst 0, 1) := by decide +kernel
theorem dX0_end_7 : decode cX0_end 7 = .ok (.putfield 25, 3) := by decide +kernel
theorem dX0_end_10 : decode cX0_end 10 = .ok (.aload_n 0, 1) := by decide +kernel
theorem dX0_end_11 : decode cX0_end 11 = .ok (.iconst 0, 1) := by decide +kernel
theorem dX0_end_12 : decode cX0_end 12 = .ok (.putfield 29, 3) := by decide +kernel
theorem dX0_end_15 : decode cX0_end 15 = .ok (.aload_n 0, 1) := by decide +kernel
theorem dX0_end_16 : decode cX0_end 16 = .ok (.invokevirtual 32, 3) := by decide +kernel
theorem dX0_end_19 : decode cX0_end 19 = .ok (.return_, 1) := by decide +kernel
theorem dX0_forgetUnwritten_0 : decode cX0_forgetUnwritten 0 = .ok (.aload_n 0, 1) := by decide +kernel
theorem dX0_forgetUnwritten_1 : decode cX0_forgetUnwritten 1 = .ok (.iconst 0, 1) := by decide +kernel
theorem dX0_forgetUnwritten_2 : decode cX0_forgetUnwritten 2 = .ok (.putfield 35, 3) := by decide +kernel
theorem dX0_forgetUnwritten_5 : decode cX0_forgetUnwritten 5 = .ok (.aload_n 0, 1) := by decide +kernel
theorem dX0_forgetUnwritten_6 : decode cX0_forgetUnwritten 6 = .ok (.iconst 0, 1) := by decide +kernel
theorem dX0_forgetUnwritten_7 : decode cX0_forgetUnwritten 7 = .ok (.putfield 38, 3) := by decide +kernel
theorem dX0_forgetUnwritten_10 : decode cX0_forgetUnwritten 10 = .ok (.return_, 1) := by decide +kernel
theorem dX0_enter_0 : decode cX0_enter 0 = .ok (.aload_n 0, 1) := by decide +kernel
theorem dX0_enter_1 : decode cX0_enter 1 = .ok (.getfield 9, 3) := by decide +kernel
theorem dX0_enter_4 : decode cX0_enter 4 = .ok (.aload_n 0, 1) := by decide +kernel
theorem dX0_enter_5 : decode cX0_enter 5 = .ok (.getfield 25, 3) := by decide +kernel
theorem dX0_enter_8 : decode cX0_enter 8 = .ok (.iload_n 1, 1) := by decide +kernel
theorem dX0_enter_9 : decode cX0_enter 9 = .ok (.invokestatic 41, 3) := by decide +kernel
theorem dX0_enter_12 : decode cX0_enter 12 = .ok (.istore 4, 2) := by decide +kernel
theorem dX0_enter_14 : decode cX0_enter 14 = .ok (.aload_n 0, 1) := by decide +kernel
theorem dX0_enter_15 : decode cX0_enter 15 = .ok (.aload_n 0, 1) := by decide +kernel
theorem dX0_enter_16 : decode cX0_enter 16 = .ok (.getfield 9, 3) := by decide +kernel
theorem dX0_enter_19 : decode cX0_enter 19 = .ok (.aload_n 0, 1) := by decide +kernel
theorem dX0_enter_20 : decode cX0_enter 20 = .ok (.getfield 25, 3) := by decide +kernel
theorem dX0_enter_23 : decode cX0_enter 23 = .ok (.iload 4, 2) := by decide +kernel
theorem dX0_enter_25 : decode cX0_enter 25 = .ok (.iload_n 1, 1) := by decide +kernel
theorem dX0_enter_26 : decode cX0_enter 26 = .ok (.invokestatic 45, 3) := by decide +kernel
theorem dX0_enter_29 : decode cX0_enter 29 = .ok (.putfield 9, 3) := by decide +kernel
theorem dX0_enter_32 : decode cX0_enter 32 = .ok (.aload_n 0, 1) := by decide +kernel
theorem dX0_enter_33 : decode cX0_enter 33 = .ok (.aload_n 0, 1) := by decide +kernel
theorem dX0_enter_34 : decode cX0_enter 34 = .ok (.getfield 15, 3) := by decide +kernel
theorem dX0_enter_37 : decode cX0_enter 37 = .ok (.aload_n 0, 1) := by decide +kernel
theorem dX0_enter_38 : decode cX0_enter 38 = .ok (.getfield 25, 3) := by decide +kernel
theorem dX0_enter_41 : decode cX0_enter 41 = .ok (.iload 4, 2) := by decide +kernel
theorem dX0_enter_43 : decode cX0_enter 43 = .ok (.iload_n 2, 1) := by decide +kernel
theorem dX0_enter_44 : decode cX0_enter 44 = .ok (.invokestatic 45, 3) := by decide +kernel
theorem dX0_enter_47 : decode cX0_enter 47 = .ok (.putfield 15, 3) := by decide +kernel
theorem dX0_enter_50 : decode cX0_enter 50 = .ok (.aload_n 0, 1) := by decide +kernel
theorem dX0_enter_51 : decode cX0_enter 51 = .ok (.aload_n 0, 1) := by decide +kernel
theorem dX0_enter_52 : decode cX0_enter 52 = .ok (.getfield 18, 3) := by decide +kernel
theorem dX0_enter_55 : decode cX0_enter 55 = .ok (.aload_n 0, 1) := by decide +kernel
theorem dX0_enter_56 : decode cX0_enter 56 = .ok (.getfield 25, 3) := by decide +kernel
theorem dX0_enter_59 : decode cX0_enter 59 = .ok (.iload 4, 2) := by decide +kernel
theorem dX0_enter_61 : decode cX0_enter 61 = .ok (.iload_n 3, 1) := by decide +kernel
theorem dX0_enter_62 : decode cX0_enter 62 = .ok (.invokestatic 45, 3) := by decide +kernel
theorem dX0_enter_65 : decode cX0_enter 65 = .ok (.putfield 18, 3) := by decide +kernel
theorem dX0_enter_68 : decode cX0_enter 68 = .ok (.aload_n 0, 1) := by decide +kernel
theorem dX0_enter_69 : decode cX0_enter 69 = .ok (.dup, 1) := by decide +kernel
theorem dX0_enter_70 : decode cX0_enter 70 = .ok (.getfield 25, 3) := by decide +kernel
theorem dX0_enter_73 : decode cX0_enter 73 = .ok (.iconst 1, 1) := by decide +kernel
theorem dX0_enter_74 : decode cX0_enter 74 = .ok (.iadd, 1) := by decide +kernel
theorem dX0_enter_75 : decode cX0_enter 75 = .ok (.putfield 25, 3) := by decide +kernel
theorem dX0_enter_78 : decode cX0_enter 78 = .ok (.return_, 1) := by decide +kernel
theorem dX0_rowOf_0 : decode cX0_rowOf 0 = .ok (.aload_n 0, 1) := by decide +kernel
theorem dX0_rowOf_1 : decode cX0_rowOf 1 = .ok (.getfield 9, 3) := by decide +kernel
theorem dX0_rowOf_4 : decode cX0_rowOf 4 = .ok (.aload_n 0, 1) := by decide +kernel
theorem dX0_rowOf_5 : decode cX0_rowOf 5 = .ok (.getfield 25, 3) := by decide +kernel
theorem dX0_rowOf_8 : decode cX0_rowOf 8 = .ok (.iload_n 1, 1) := by decide +kernel
theorem dX0_rowOf_9 : decode cX0_rowOf 9 = .ok (.invokestatic 41, 3) := by decide +kernel
theorem dX0_rowOf_12 : decode cX0_rowOf 12 = .ok (.istore_n 2, 1) := by decide +kernel
theorem dX0_rowOf_13 : decode cX0_rowOf 13 = .ok (.iload_n 2, 1) := by decide +kernel
theorem dX0_rowOf_14 : decode cX0_rowOf 14 = .ok (.aload_n 0, 1) := by decide +kernel
theorem dX0_rowOf_15 : decode cX0_rowOf 15 = .ok (.getfield 25, 3) := by decide +kernel
theorem dX0_rowOf_18 : decode cX0_rowOf 18 = .ok (.if_icmp .ge 17, 3) := by decide +kernel
theorem dX0_rowOf_21 : decode cX0_rowOf 21 = .ok (.aload_n 0, 1) := by decide +kernel
theorem dX0_rowOf_22 : decode cX0_rowOf 22 = .ok (.getfield 9, 3) := by decide +kernel
theorem dX0_rowOf_25 : decode cX0_rowOf 25 = .ok (.iload_n 2, 1) := by decide +kernel
theorem dX0_rowOf_26 : decode cX0_rowOf 26 = .ok (.iaload, 1) := by decide +kernel
theorem dX0_rowOf_27 : decode cX0_rowOf 27 = .ok (.iload_n 1, 1) := by decide +kernel
theorem dX0_rowOf_28 : decode cX0_rowOf 28 = .ok (.if_icmp .ne 7, 3) := by decide +kernel
theorem dX0_rowOf_31 : decode cX0_rowOf 31 = .ok (.iload_n 2, 1) := by decide +kernel
theorem dX0_rowOf_32 : decode cX0_rowOf 32 = .ok (.goto 4, 3) := by decide +kernel
theorem dX0_rowOf_35 : decode cX0_rowOf 35 = .ok (.iconst (-1), 1) := by decide +kernel
theorem dX0_rowOf_36 : decode cX0_rowOf 36 = .ok (.ireturn, 1) := by decide +kernel
theorem dX0_stateAt_0 : decode cX0_stateAt 0 = .ok (.iload_n 1, 1) := by decide +kernel
theorem dX0_stateAt_1 : decode cX0_stateAt 1 = .ok (.ifCond .lt 11, 3) := by decide +kernel
theorem dX0_stateAt_4 : decode cX0_stateAt 4 = .ok (.iload_n 1, 1) := by decide +kernel
theorem dX0_stateAt_5 : decode cX0_stateAt 5 = .ok (.aload_n 0, 1) := by decide +kernel
theorem dX0_stateAt_6 : decode cX0_stateAt 6 = .ok (.getfield 25, 3) := by decide +kernel
theorem dX0_stateAt_9 : decode cX0_stateAt 9 = .ok (.if_icmp .lt 5, 3) := by decide +kernel
theorem dX0_stateAt_12 : decode cX0_stateAt 12 = .ok (.iconst 0, 1) := by decide +kernel
theorem dX0_stateAt_13 : decode cX0_stateAt 13 = .ok (.ireturn, 1) := by decide +kernel
theorem dX0_stateAt_14 : decode cX0_stateAt 14 = .ok (.iload_n 1, 1) := by decide +kernel
theorem dX0_stateAt_15 : decode cX0_stateAt 15 = .ok (.aload_n 0, 1) := by decide +kernel
theorem dX0_stateAt_16 : decode cX0_stateAt 16 = .ok (.getfield 29, 3) := by decide +kernel
theorem dX0_stateAt_19 : decode cX0_stateAt 19 = .ok (.if_icmp .ge 17, 3) := by decide +kernel
theorem dX0_stateAt_22 : decode cX0_stateAt 22 = .ok (.iload_n 1, 1) := by decide +kernel
theorem dX0_stateAt_23 : decode cX0_stateAt 23 = .ok (.aload_n 0, 1) := by decide +kernel
theorem dX0_stateAt_24 : decode cX0_stateAt 24 = .ok (.getfield 35, 3) := by decide +kernel
theorem dX0_stateAt_27 : decode cX0_stateAt 27 = .ok (.if_icmp .ge 7, 3) := by decide +kernel
theorem dX0_stateAt_30 : decode cX0_stateAt 30 = .ok (.iconst 4, 1) := by decide +kernel
theorem dX0_stateAt_31 : decode cX0_stateAt 31 = .ok (.goto 4, 3) := by decide +kernel
theorem dX0_stateAt_34 : decode cX0_stateAt 34 = .ok (.iconst 3, 1) := by decide +kernel
theorem dX0_stateAt_35 : decode cX0_stateAt 35 = .ok (.ireturn, 1) := by decide +kernel
theorem dX0_stateAt_36 : decode cX0_stateAt 36 = .ok (.iload_n 1, 1) := by decide +kernel
theorem dX0_stateAt_37 : decode cX0_stateAt 37 = .ok (.aload_n 0, 1) := by decide +kernel
theorem dX0_stateAt_38 : decode cX0_stateAt 38 = .ok (.getfield 29, 3) := by decide +kernel
theorem dX0_stateAt_41 : decode cX0_stateAt 41 = .ok (.if_icmp .ne 14, 3) := by decide +kernel
theorem dX0_stateAt_44 : decode cX0_stateAt 44 = .ok (.aload_n 0, 1) := by decide +kernel
theorem dX0_stateAt_45 : decode cX0_stateAt 45 = .ok (.getfield 38, 3) := by decide +kernel
theorem dX0_stateAt_48 : decode cX0_stateAt 48 = .ok (.ifCond .eq 7, 3) := by decide +kernel
theorem dX0_stateAt_51 : decode cX0_stateAt 51 = .ok (.iconst 2, 1) := by decide +kernel
theorem dX0_stateAt_52 : decode cX0_stateAt 52 = .ok (.goto 4, 3) := by decide +kernel
theorem dX0_stateAt_55 : decode cX0_stateAt 55 = .ok (.iconst 1, 1) := by decide +kernel
theorem dX0_stateAt_56 : decode cX0_stateAt 56 = .ok (.ireturn, 1) := by decide +kernel
theorem dX1_init_0 : decode cX1_init 0 = .ok (.aload_n 0, 1) := by decide +kernel
theorem dX1_init_1 : decode cX1_init 1 = .ok (.invokespecial 3, 3) := by decide +kernel
theorem dX1_init_4 : decode cX1_init 4 = .ok (.aload_n 0, 1) := by decide +kernel
theorem dX1_init_5 : decode cX1_init 5 = .ok (.iconst (-1), 1) := by decide +kernel
theorem dX1_init_6 : decode cX1_init 6 = .ok (.putfield 9, 3) := by decide +kernel
theorem dX1_init_9 : decode cX1_init 9 = .ok (.return_, 1) := by decide +kernel
theorem dX1_lastsForWrite_0 : decode cX1_lastsForWrite 0 = .ok (.aload_n 0, 1) := by decide +kernel
theorem dX1_lastsForWrite_1 : decode cX1_lastsForWrite 1 = .ok (.getfield 9, 3) := by decide +kernel
theorem dX1_lastsForWrite_4 : decode cX1_lastsForWrite 4 = .ok (.ifCond .ne 10, 3) := by decide +kernel
theorem dX1_lastsForWrite_7 : decode cX1_lastsForWrite 7 = .ok (.aload_n 0, 1) := by decide +kernel
theorem dX1_lastsForWrite_8 : decode cX1_lastsForWrite 8 = .ok (.iconst 1, 1) := by decide +kernel
theorem dX1_lastsForWrite_9 : decode cX1_lastsForWrite 9 = .ok (.putfield 15, 3) := by decide +kernel
theorem dX1_lastsForWrite_12 : decode cX1_lastsForWrite 12 = .ok (.iconst 0, 1) := by decide +kernel
theorem dX1_lastsForWrite_13 : decode cX1_lastsForWrite 13 = .ok (.ireturn, 1) := by decide +kernel
theorem dX1_lastsForWrite_14 : decode cX1_lastsForWrite 14 = .ok (.aload_n 0, 1) := by decide +kernel
theorem dX1_lastsForWrite_15 : decode cX1_lastsForWrite 15 = .ok (.getfield 9, 3) := by decide +kernel
theorem dX1_lastsForWrite_18 : decode cX1_lastsForWrite 18 = .ok (.ifCond .le 13, 3) := by decide +kernel
theorem dX1_lastsForWrite_21 : decode cX1_lastsForWrite 21 = .ok (.aload_n 0, 1) := by decide +kernel
theorem dX1_lastsForWrite_22 : decode cX1_lastsForWrite 22 = .ok (.dup, 1) := by decide +kernel
theorem dX1_lastsForWrite_23 : decode cX1_lastsForWrite 23 = .ok (.getfield 9, 3) := by decide +kernel
theorem dX1_lastsForWrite_26 : decode cX1_lastsForWrite 26 = .ok (.iconst 1, 1) := by decide +kernel
theorem dX1_lastsForWrite_27 : decode cX1_lastsForWrite 27 = .ok (.isub, 1) := by decide +kernel
theorem dX1_lastsForWrite_28 : decode cX1_lastsForWrite 28 = .ok (.putfield 9, 3) := by decide +kernel
theorem dX1_lastsForWrite_31 : decode cX1_lastsForWrite 31 = .ok (.aload_n 0, 1) := by decide +kernel
theorem dX1_lastsForWrite_32 : decode cX1_lastsForWrite 32 = .ok (.dup, 1) := by decide +kernel
theorem dX1_lastsForWrite_33 : decode cX1_lastsForWrite 33 = .ok (.getfield 19, 3) := by decide +kernel
theorem dX1_lastsForWrite_36 : decode cX1_lastsForWrite 36 = .ok (.iconst 1, 1) := by decide +kernel
theorem dX1_lastsForWrite_37 : decode cX1_lastsForWrite 37 = .ok (.iadd, 1) := by decide +kernel
theorem dX1_lastsForWrite_38 : decode cX1_lastsForWrite 38 = .ok (.putfield 19, 3) := by decide +kernel
theorem dX1_lastsForWrite_41 : decode cX1_lastsForWrite 41 = .ok (.iconst 1, 1) := by decide +kernel
theorem dX1_lastsForWrite_42 : decode cX1_lastsForWrite 42 = .ok (.ireturn, 1) := by decide +kernel
theorem dX1_lastsForRecord_0 : decode cX1_lastsForRecord 0 = .ok (.aload_n 0, 1) := by decide +kernel
theorem dX1_lastsForRecord_1 : decode cX1_lastsForRecord 1 = .ok (.invokevirtual 22, 3) := by decide +kernel
theorem dX1_lastsForRecord_4 : decode cX1_lastsForRecord 4 = .ok (.ifCond .ne 5, 3) := by decide +kernel
theorem dX1_lastsForRecord_7 : decode cX1_lastsForRecord 7 = .ok (.iconst 0, 1) := by decide +kernel
theorem dX1_lastsForRecord_8 : decode cX1_lastsForRecord 8 = .ok (.ireturn, 1) := by decide +kernel
theorem dX1_lastsForRecord_9 : decode cX1_lastsForRecord 9 = .ok (.aload_n 0, 1) := by decide +kernel
theorem dX1_lastsForRecord_10 : decode cX1_lastsForRecord 10 = .ok (.dup, 1) := by decide +kernel
theorem dX1_lastsForRecord_11 : decode cX1_lastsForRecord 11 = .ok (.getfield 26, 3) := by decide +kernel
theorem dX1_lastsForRecord_14 : decode cX1_lastsForRecord 14 = .ok (.iconst 1, 1) := by decide +kernel
theorem dX1_lastsForRecord_15 : decode cX1_lastsForRecord 15 = .ok (.iadd, 1) := by decide +kernel
theorem dX1_lastsForRecord_16 : decode cX1_lastsForRecord 16 = .ok (.putfield 26, 3) := by decide +kernel
theorem dX1_lastsForRecord_19 : decode cX1_lastsForRecord 19 = .ok (.iconst 1, 1) := by decide +kernel
theorem dX1_lastsForRecord_20 : decode cX1_lastsForRecord 20 = .ok (.ireturn, 1) := by decide +kernel
theorem dX2_init_0 : decode cX2_init 0 = .ok (.aload_n 0, 1) := by decide +kernel
theorem dX2_init_1 : decode cX2_init 1 = .ok (.invokespecial 3, 3) := by decide +kernel
theorem dX2_init_4 : decode cX2_init 4 = .ok (.aload_n 0, 1) := by decide +kernel
theorem dX2_init_5 : decode cX2_init 5 = .ok (.bipush 8, 2) := by decide +kernel
theorem dX2_init_7 : decode cX2_init 7 = .ok (.newarray .int, 2) := by decide +kernel
theorem dX2_init_9 : decode cX2_init 9 = .ok (.putfield 9, 3) := by decide +kernel
theorem dX2_init_12 : decode cX2_init 12 = .ok (.aload_n 0, 1) := by decide +kernel
theorem dX2_init_13 : decode cX2_init 13 = .ok (.sipush 128, 3) := by decide +kernel
theorem dX2_init_16 : decode cX2_init 16 = .ok (.newarray .int, 2) := by decide +kernel
theorem dX2_init_18 : decode cX2_init 18 = .ok (.putfield 15, 3) := by decide +kernel
theorem dX2_init_21 : decode cX2_init 21 = .ok (.aload_n 0, 1) := by decide +kernel
theorem dX2_init_22 : decode cX2_init 22 = .ok (.sipush 128, 3) := by decide +kernel
theorem dX2_init_25 : decode cX2_init 25 = .ok (.newarray .int, 2) := by decide +kernel
theorem dX2_init_27 : decode cX2_init 27 = .ok (.putfield 18, 3) := by decide +kernel
theorem dX2_init_30 : decode cX2_init 30 = .ok (.return_, 1) := by decide +kernel
theorem dX2_enrol_0 : decode cX2_enrol 0 = .ok (.aload_n 0, 1) := by decide +kernel
theorem dX2_enrol_1 : decode cX2_enrol 1 = .ok (.getfield 9, 3) := by decide +kernel
theorem dX2_enrol_4 : decode cX2_enrol 4 = .ok (.iload_n 1, 1) := by decide +kernel
theorem dX2_enrol_5 : decode cX2_enrol 5 = .ok (.iload_n 2, 1) := by decide +kernel
theorem dX2_enrol_6 : decode cX2_enrol 6 = .ok (.iastore, 1) := by decide +kernel
theorem dX2_enrol_7 : decode cX2_enrol 7 = .ok (.iconst 0, 1) := by decide +kernel
theorem dX2_enrol_8 : decode cX2_enrol 8 = .ok (.istore_n 3, 1) := by decide +kernel
theorem dX2_enrol_9 : decode cX2_enrol 9 = .ok (.iload_n 3, 1) := by decide +kernel
theorem dX2_enrol_10 : decode cX2_enrol 10 = .ok (.iload_n 2, 1) := by decide +kernel
theorem dX2_enrol_11 : decode cX2_enrol 11 = .ok (.if_icmp .ge 127, 3) := by decide +kernel
theorem dX2_enrol_14 : decode cX2_enrol 14 = .ok (.ldc2_w 21, 3) := by decide +kernel
theorem dX2_enrol_17 : decode cX2_enrol 17 = .ok (.iload_n 1, 1) := by decide +kernel
theorem dX2_enrol_18 : decode cX2_enrol 18 = .ok (.i2l, 1) := by decide +kernel
theorem dX2_enrol_19 : decode cX2_enrol 19 = .ok (.lmul, 1) := by decide +kernel
theorem dX2_enrol_20 : decode cX2_enrol 20 = .ok (.iload_n 3, 1) := by decide +kernel
theorem dX2_enrol_21 : decode cX2_enrol 21 = .ok (.i2l, 1) := by decide +kernel
theorem dX2_enrol_22 : decode cX2_enrol 22 = .ok (.ladd, 1) := by decide +kernel
theorem dX2_enrol_23 : decode cX2_enrol 23 = .ok (.ldc2_w 23, 3) := by decide +kernel
theorem dX2_enrol_26 : decode cX2_enrol 26 = .ok (.ladd, 1) := by decide +kernel
theorem dX2_enrol_27 : decode cX2_enrol 27 = .ok (.invokestatic 25, 3) := by decide +kernel
theorem dX2_enrol_30 : decode cX2_enrol 30 = .ok (.istore 4, 2) := by decide +kernel
theorem dX2_enrol_32 : decode cX2_enrol 32 = .ok (.aload_n 0, 1) := by decide +kernel
theorem dX2_enrol_33 : decode cX2_enrol 33 = .ok (.getfield 15, 3) := by decide +kernel
theorem dX2_enrol_36 : decode cX2_enrol 36 = .ok (.aload_n 0, 1) := by decide +kernel
theorem dX2_enrol_37 : decode cX2_enrol 37 = .ok (.getfield 29, 3) := by decide +kernel
theorem dX2_enrol_40 : decode cX2_enrol 40 = .ok (.iload 4, 2) := by decide +kernel
theorem dX2_enrol_42 : decode cX2_enrol 42 = .ok (.invokestatic 33, 3) := by decide +kernel
theorem dX2_enrol_45 : decode cX2_enrol 45 = .ok (.istore 5, 2) := by decide +kernel
theorem dX2_enrol_47 : decode cX2_enrol 47 = .ok (.iload 5, 2) := by decide +kernel
theorem dX2_enrol_49 : decode cX2_enrol 49 = .ok (.aload_n 0, 1) := by decide +kernel
theorem dX2_enrol_50 : decode cX2_enrol 50 = .ok (.getfield 29, 3) := by decide +kernel
theorem dX2_enrol_53 : decode cX2_enrol 53 = .ok (.if_icmp .ge 32, 3) := by decide +kernel
theorem dX2_enrol_56 : decode cX2_enrol 56 = .ok (.aload_n 0, 1) := by decide +kernel
theorem dX2_enrol_57 : decode cX2_enrol 57 = .ok (.getfield 15, 3) := by decide +kernel
theorem dX2_enrol_60 : decode cX2_enrol 60 = .ok (.iload 5, 2) := by decide +kernel
theorem dX2_enrol_62 : decode cX2_enrol 62 = .ok (.iaload, 1) := by decide +kernel
theorem dX2_enrol_63 : decode cX2_enrol 63 = .ok (.iload 4, 2) := by decide +kernel
theorem dX2_enrol_65 : decode cX2_enrol 65 = .ok (.if_icmp .ne 20, 3) := by decide +kernel
theorem dX2_enrol_68 : decode cX2_enrol 68 = .ok (.aload_n 0, 1) := by decide +kernel
theorem dX2_enrol_69 : decode cX2_enrol 69 = .ok (.getfield 18, 3) := by decide +kernel
theorem dX2_enrol_72 : decode cX2_enrol 72 = .ok (.iload 5, 2) := by decide +kernel
theorem dX2_enrol_74 : decode cX2_enrol 74 = .ok (.iaload, 1) := by decide +kernel
theorem dX2_enrol_75 : decode cX2_enrol 75 = .ok (.iload_n 1, 1) := by decide +kernel
theorem dX2_enrol_76 : decode cX2_enrol 76 = .ok (.if_icmp .ge 9, 3) := by decide +kernel
theorem dX2_enrol_79 : decode cX2_enrol 79 = .ok (.iinc 5 1, 3) := by decide +kernel
theorem dX2_enrol_82 : decode cX2_enrol 82 = .ok (.goto (-35), 3) := by decide +kernel
theorem dX2_enrol_85 : decode cX2_enrol 85 = .ok (.aload_n 0, 1) := by decide +kernel
theorem dX2_enrol_86 : decode cX2_enrol 86 = .ok (.aload_n 0, 1) := by decide +kernel
theorem dX2_enrol_87 : decode cX2_enrol 87 = .ok (.getfield 15, 3) := by decide +kernel
theorem dX2_enrol_90 : decode cX2_enrol 90 = .ok (.aload_n 0, 1) := by decide +kernel
theorem dX2_enrol_91 : decode cX2_enrol 91 = .ok (.getfield 29, 3) := by decide +kernel
theorem dX2_enrol_94 : decode cX2_enrol 94 = .ok (.iload 5, 2) := by decide +kernel
theorem dX2_enrol_96 : decode cX2_enrol 96 = .ok (.iload 4, 2) := by decide +kernel
theorem dX2_enrol_98 : decode cX2_enrol 98 = .ok (.invokestatic 37, 3) := by decide +kernel
theorem dX2_enrol_101 : decode cX2_enrol 101 = .ok (.putfield 15, 3) := by decide +kernel
theorem dX2_enrol_104 : decode cX2_enrol 104 = .ok (.aload_n 0, 1) := by decide +kernel
theorem dX2_enrol_105 : decode cX2_enrol 105 = .ok (.aload_n 0, 1) := by decide +kernel
theorem dX2_enrol_106 : decode cX2_enrol 106 = .ok (.getfield 18, 3) := by decide +kernel
theorem dX2_enrol_109 : decode cX2_enrol 109 = .ok (.aload_n 0, 1) := by decide +kernel
theorem dX2_enrol_110 : decode cX2_enrol 110 = .ok (.getfield 29, 3) := by decide +kernel
theorem dX2_enrol_113 : decode cX2_enrol 113 = .ok (.iload 5, 2) := by decide +kernel
theorem dX2_enrol_115 : decode cX2_enrol 115 = .ok (.iload_n 1, 1) := by decide +kernel
theorem dX2_enrol_116 : decode cX2_enrol 116 = .ok (.invokestatic 37, 3) := by decide +kernel
theorem dX2_enrol_119 : decode cX2_enrol 119 = .ok (.putfield 18, 3) := by decide +kernel
theorem dX2_enrol_122 : decode cX2_enrol 122 = .ok (.aload_n 0, 1) := by decide +kernel
theorem dX2_enrol_123 : decode cX2_enrol 123 = .ok (.dup, 1) := by decide +kernel
theorem dX2_enrol_124 : decode cX2_enrol 124 = .ok (.getfield 29, 3) := by decide +kernel
theorem dX2_enrol_127 : decode cX2_enrol 127 = .ok (.iconst 1, 1) := by decide +kernel
theorem dX2_enrol_128 : decode cX2_enrol 128 = .ok (.iadd, 1) := by decide +kernel
theorem dX2_enrol_129 : decode cX2_enrol 129 = .ok (.putfield 29, 3) := by decide +kernel
theorem dX2_enrol_132 : decode cX2_enrol 132 = .ok (.iinc 3 1, 3) := by decide +kernel
theorem dX2_enrol_135 : decode cX2_enrol 135 = .ok (.goto (-126), 3) := by decide +kernel
theorem dX2_enrol_138 : decode cX2_enrol 138 = .ok (.return_, 1) := by decide +kernel
theorem dX2_dismiss_0 : decode cX2_dismiss 0 = .ok (.aload_n 0, 1) := by decide +kernel
theorem dX2_dismiss_1 : decode cX2_dismiss 1 = .ok (.getfield 9, 3) := by decide +kernel
theorem dX2_dismiss_4 : decode cX2_dismiss 4 = .ok (.iload_n 1, 1) := by decide +kernel
theorem dX2_dismiss_5 : decode cX2_dismiss 5 = .ok (.iconst 0, 1) := by decide +kernel
theorem dX2_dismiss_6 : decode cX2_dismiss 6 = .ok (.iastore, 1) := by decide +kernel
theorem dX2_dismiss_7 : decode cX2_dismiss 7 = .ok (.iconst 0, 1) := by decide +kernel
theorem dX2_dismiss_8 : decode cX2_dismiss 8 = .ok (.istore_n 2, 1) := by decide +kernel
theorem dX2_dismiss_9 : decode cX2_dismiss 9 = .ok (.iconst 0, 1) := by decide +kernel
theorem dX2_dismiss_10 : decode cX2_dismiss 10 = .ok (.istore_n 3, 1) := by decide +kernel
theorem dX2_dismiss_11 : decode cX2_dismiss 11 = .ok (.iload_n 3, 1) := by decide +kernel
theorem dX2_dismiss_12 : decode cX2_dismiss 12 = .ok (.aload_n 0, 1) := by decide +kernel
theorem dX2_dismiss_13 : decode cX2_dismiss 13 = .ok (.getfield 29, 3) := by decide +kernel
theorem dX2_dismiss_16 : decode cX2_dismiss 16 = .ok (.if_icmp .ge 46, 3) := by decide +kernel
theorem dX2_dismiss_19 : decode cX2_dismiss 19 = .ok (.aload_n 0, 1) := by decide +kernel
theorem dX2_dismiss_20 : decode cX2_dismiss 20 = .ok (.getfield 18, 3) := by decide +kernel
theorem dX2_dismiss_23 : decode cX2_dismiss 23 = .ok (.iload_n 3, 1) := by decide +kernel
theorem dX2_dismiss_24 : decode cX2_dismiss 24 = .ok (.iaload, 1) := by decide +kernel
theorem dX2_dismiss_25 : decode cX2_dismiss 25 = .ok (.iload_n 1, 1) := by decide +kernel
theorem dX2_dismiss_26 : decode cX2_dismiss 26 = .ok (.if_icmp .eq 30, 3) := by decide +kernel
theorem dX2_dismiss_29 : decode cX2_dismiss 29 = .ok (.aload_n 0, 1) := by decide +kernel
theorem dX2_dismiss_30 : decode cX2_dismiss 30 = .ok (.getfield 15, 3) := by decide +kernel
theorem dX2_dismiss_33 : decode cX2_dismiss 33 = .ok (.iload_n 2, 1) := by decide +kernel
theorem dX2_dismiss_34 : decode cX2_dismiss 34 = .ok (.aload_n 0, 1) := by decide +kernel
theorem dX2_dismiss_35 : decode cX2_dismiss 35 = .ok (.getfield 15, 3) := by decide +kernel
theorem dX2_dismiss_38 : decode cX2_dismiss 38 = .ok (.iload_n 3, 1) := by decide +kernel
theorem dX2_dismiss_39 : decode cX2_dismiss 39 = .ok (.iaload, 1) := by decide +kernel
theorem dX2_dismiss_40 : decode cX2_dismiss 40 = .ok (.iastore, 1) := by decide +kernel
theorem dX2_dismiss_41 : decode cX2_dismiss 41 = .ok (.aload_n 0, 1) := by decide +kernel
theorem dX2_dismiss_42 : decode cX2_dismiss 42 = .ok (.getfield 18, 3) := by decide +kernel
theorem dX2_dismiss_45 : decode cX2_dismiss 45 = .ok (.iload_n 2, 1) := by decide +kernel
theorem dX2_dismiss_46 : decode cX2_dismiss 46 = .ok (.aload_n 0, 1) := by decide +kernel
theorem dX2_dismiss_47 : decode cX2_dismiss 47 = .ok (.getfield 18, 3) := by decide +kernel
theorem dX2_dismiss_50 : decode cX2_dismiss 50 = .ok (.iload_n 3, 1) := by decide +kernel
theorem dX2_dismiss_51 : decode cX2_dismiss 51 = .ok (.iaload, 1) := by decide +kernel
theorem dX2_dismiss_52 : decode cX2_dismiss 52 = .ok (.iastore, 1) := by decide +kernel
theorem dX2_dismiss_53 : decode cX2_dismiss 53 = .ok (.iinc 2 1, 3) := by decide +kernel
theorem dX2_dismiss_56 : decode cX2_dismiss 56 = .ok (.iinc 3 1, 3) := by decide +kernel
theorem dX2_dismiss_59 : decode cX2_dismiss 59 = .ok (.goto (-48), 3) := by decide +kernel
theorem dX2_dismiss_62 : decode cX2_dismiss 62 = .ok (.aload_n 0, 1) := by decide +kernel
theorem dX2_dismiss_63 : decode cX2_dismiss 63 = .ok (.iload_n 2, 1) := by decide +kernel
theorem dX2_dismiss_64 : decode cX2_dismiss 64 = .ok (.putfield 29, 3) := by decide +kernel
theorem dX2_dismiss_67 : decode cX2_dismiss 67 = .ok (.return_, 1) := by decide +kernel
theorem dX2_ownerOf_0 : decode cX2_ownerOf 0 = .ok (.aload_n 0, 1) := by decide +kernel
theorem dX2_ownerOf_1 : decode cX2_ownerOf 1 = .ok (.getfield 15, 3) := by decide +kernel
theorem dX2_ownerOf_4 : decode cX2_ownerOf 4 = .ok (.aload_n 0, 1) := by decide +kernel
theorem dX2_ownerOf_5 : decode cX2_ownerOf 5 = .ok (.getfield 29, 3) := by decide +kernel
theorem dX2_ownerOf_8 : decode cX2_ownerOf 8 = .ok (.iload_n 1, 1) := by decide +kernel
theorem dX2_ownerOf_9 : decode cX2_ownerOf 9 = .ok (.i2l, 1) := by decide +kernel
theorem dX2_ownerOf_10 : decode cX2_ownerOf 10 = .ok (.invokestatic 25, 3) := by decide +kernel
theorem dX2_ownerOf_13 : decode cX2_ownerOf 13 = .ok (.invokestatic 33, 3) := by decide +kernel
theorem dX2_ownerOf_16 : decode cX2_ownerOf 16 = .ok (.istore_n 2, 1) := by decide +kernel
theorem dX2_ownerOf_17 : decode cX2_ownerOf 17 = .ok (.aload_n 0, 1) := by decide +kernel
theorem dX2_ownerOf_18 : decode cX2_ownerOf 18 = .ok (.getfield 18, 3) := by decide +kernel
theorem dX2_ownerOf_21 : decode cX2_ownerOf 21 = .ok (.iload_n 2, 1) := by decide +kernel
theorem dX2_ownerOf_22 : decode cX2_ownerOf 22 = .ok (.aload_n 0, 1) := by decide +kernel
theorem dX2_ownerOf_23 : decode cX2_ownerOf 23 = .ok (.getfield 29, 3) := by decide +kernel
theorem dX2_ownerOf_26 : decode cX2_ownerOf 26 = .ok (.if_icmp .ge 7, 3) := by decide +kernel
theorem dX2_ownerOf_29 : decode cX2_ownerOf 29 = .ok (.iload_n 2, 1) := by decide +kernel
theorem dX2_ownerOf_30 : decode cX2_ownerOf 30 = .ok (.goto 4, 3) := by decide +kernel
theorem dX2_ownerOf_33 : decode cX2_ownerOf 33 = .ok (.iconst 0, 1) := by decide +kernel
theorem dX2_ownerOf_34 : decode cX2_ownerOf 34 = .ok (.iaload, 1) := by decide +kernel
theorem dX2_ownerOf_35 : decode cX2_ownerOf 35 = .ok (.ireturn, 1) := by decide +kernel
theorem dX2_placesOf_0 : decode cX2_placesOf 0 = .ok (.lconst 0, 1) := by decide +kernel
theorem dX2_placesOf_1 : decode cX2_placesOf 1 = .ok (.lstore_n 2, 1) := by decide +kernel
theorem dX2_placesOf_2 : decode cX2_placesOf 2 = .ok (.aload_n 0, 1) := by decide +kernel
theorem dX2_placesOf_3 : decode cX2_placesOf 3 = .ok (.getfield 15, 3) := by decide +kernel
theorem dX2_placesOf_6 : decode cX2_placesOf 6 = .ok (.aload_n 0, 1) := by decide +kernel
theorem dX2_placesOf_7 : decode cX2_placesOf 7 = .ok (.getfield 29, 3) := by decide +kernel
theorem dX2_placesOf_10 : decode cX2_placesOf 10 = .ok (.ifCond .le 12, 3) := by decide +kernel
theorem dX2_placesOf_13 : decode cX2_placesOf 13 = .ok (.aload_n 0, 1) := by decide +kernel
theorem dX2_placesOf_14 : decode cX2_placesOf 14 = .ok (.getfield 29, 3) := by decide +kernel
theorem dX2_placesOf_17 : decode cX2_placesOf 17 = .ok (.iconst 1, 1) := by decide +kernel
theorem dX2_placesOf_18 : decode cX2_placesOf 18 = .ok (.isub, 1) := by decide +kernel
theorem dX2_placesOf_19 : decode cX2_placesOf 19 = .ok (.goto 4, 3) := by decide +kernel
theorem dX2_placesOf_22 : decode cX2_placesOf 22 = .ok (.iconst 0, 1) := by decide +kernel
theorem dX2_placesOf_23 : decode cX2_placesOf 23 = .ok (.iaload, 1) := by decide +kernel
theorem dX2_placesOf_24 : decode cX2_placesOf 24 = .ok (.i2l, 1) := by decide +kernel
theorem dX2_placesOf_25 : decode cX2_placesOf 25 = .ok (.ldc2_w 41, 3) := by decide +kernel
theorem dX2_placesOf_28 : decode cX2_placesOf 28 = .ok (.lsub, 1) := by decide +kernel
theorem dX2_placesOf_29 : decode cX2_placesOf 29 = .ok (.lstore 4, 2) := by decide +kernel
theorem dX2_placesOf_31 : decode cX2_placesOf 31 = .ok (.iconst 0, 1) := by decide +kernel
theorem dX2_placesOf_32 : decode cX2_placesOf 32 = .ok (.istore 6, 2) := by decide +kernel
theorem dX2_placesOf_34 : decode cX2_placesOf 34 = .ok (.iload 6, 2) := by decide +kernel
theorem dX2_placesOf_36 : decode cX2_placesOf 36 = .ok (.aload_n 0, 1) := by decide +kernel
theorem dX2_placesOf_37 : decode cX2_placesOf 37 = .ok (.getfield 29, 3) := by decide +kernel
theorem dX2_placesOf_40 : decode cX2_placesOf 40 = .ok (.if_icmp .ge 44, 3) := by decide +kernel
theorem dX2_placesOf_43 : decode cX2_placesOf 43 = .ok (.aload_n 0, 1) := by decide +kernel
theorem dX2_placesOf_44 : decode cX2_placesOf 44 = .ok (.getfield 18, 3) := by decide +kernel
theorem dX2_placesOf_47 : decode cX2_placesOf 47 = .ok (.iload 6, 2) := by decide +kernel
theorem dX2_placesOf_49 : decode cX2_placesOf 49 = .ok (.iaload, 1) := by decide +kernel
theorem dX2_placesOf_50 : decode cX2_placesOf 50 = .ok (.iload_n 1, 1) := by decide +kernel
theorem dX2_placesOf_51 : decode cX2_placesOf 51 = .ok (.if_icmp .ne 17, 3) := by decide +kernel
theorem dX2_placesOf_54 : decode cX2_placesOf 54 = .ok (.lload_n 2, 1) := by decide +kernel
theorem dX2_placesOf_55 : decode cX2_placesOf 55 = .ok (.aload_n 0, 1) := by decide +kernel
theorem dX2_placesOf_56 : decode cX2_placesOf 56 = .ok (.getfield 15, 3) := by decide +kernel
theorem dX2_placesOf_59 : decode cX2_placesOf 59 = .ok (.iload 6, 2) := by decide +kernel
theorem dX2_placesOf_61 : decode cX2_placesOf 61 = .ok (.iaload, 1) := by decide +kernel
theorem dX2_placesOf_62 : decode cX2_placesOf 62 = .ok (.i2l, 1) := by decide +kernel
theorem dX2_placesOf_63 : decode cX2_placesOf 63 = .ok (.lload 4, 2) := by decide +kernel
theorem dX2_placesOf_65 : decode cX2_placesOf 65 = .ok (.lsub, 1) := by decide +kernel
theorem dX2_placesOf_66 : decode cX2_placesOf 66 = .ok (.ladd, 1) := by decide +kernel
theorem dX2_placesOf_67 : decode cX2_placesOf 67 = .ok (.lstore_n 2, 1) := by decide +kernel
theorem dX2_placesOf_68 : decode cX2_placesOf 68 = .ok (.aload_n 0, 1) := by decide +kernel
theorem dX2_placesOf_69 : decode cX2_placesOf 69 = .ok (.getfield 15, 3) := by decide +kernel
theorem dX2_placesOf_72 : decode cX2_placesOf 72 = .ok (.iload 6, 2) := by decide +kernel
theorem dX2_placesOf_74 : decode cX2_placesOf 74 = .ok (.iaload, 1) := by decide +kernel
theorem dX2_placesOf_75 : decode cX2_placesOf 75 = .ok (.i2l, 1) := by decide +kernel
theorem dX2_placesOf_76 : decode cX2_placesOf 76 = .ok (.lstore 4, 2) := by decide +kernel
theorem dX2_placesOf_78 : decode cX2_placesOf 78 = .ok (.iinc 6 1, 3) := by decide +kernel
theorem dX2_placesOf_81 : decode cX2_placesOf 81 = .ok (.goto (-47), 3) := by decide +kernel
theorem dX2_placesOf_84 : decode cX2_placesOf 84 = .ok (.lload_n 2, 1) := by decide +kernel
theorem dX2_placesOf_85 : decode cX2_placesOf 85 = .ok (.lreturn, 1) := by decide +kernel
theorem dX3_init_0 : decode cX3_init 0 = .ok (.aload_n 0, 1) := by decide +kernel
theorem dX3_init_1 : decode cX3_init 1 = .ok (.invokespecial 3, 3) := by decide +kernel
theorem dX3_init_4 : decode cX3_init 4 = .ok (.aload_n 0, 1) := by decide +kernel
theorem dX3_init_5 : decode cX3_init 5 = .ok (.bipush 32, 2) := by decide +kernel
theorem dX3_init_7 : decode cX3_init 7 = .ok (.newarray .int, 2) := by decide +kernel
theorem dX3_init_9 : decode cX3_init 9 = .ok (.putfield 9, 3) := by decide +kernel
theorem dX3_init_12 : decode cX3_init 12 = .ok (.aload_n 0, 1) := by decide +kernel
theorem dX3_init_13 : decode cX3_init 13 = .ok (.bipush 32, 2) := by decide +kernel
theorem dX3_init_15 : decode cX3_init 15 = .ok (.newarray .int, 2) := by decide +kernel
theorem dX3_init_17 : decode cX3_init 17 = .ok (.putfield 15, 3) := by decide +kernel
theorem dX3_init_20 : decode cX3_init 20 = .ok (.return_, 1) := by decide +kernel
theorem dX3_has_0 : decode cX3_has 0 = .ok (.aload_n 0, 1) := by decide +kernel
theorem dX3_has_1 : decode cX3_has 1 = .ok (.aload_n 0, 1) := by decide +kernel
theorem dX3_has_2 : decode cX3_has 2 = .ok (.getfield 9, 3) := by decide +kernel
theorem dX3_has_5 : decode cX3_has 5 = .ok (.aload_n 0, 1) := by decide +kernel
theorem dX3_has_6 : decode cX3_has 6 = .ok (.getfield 18, 3) := by decide +kernel
theorem dX3_has_9 : decode cX3_has 9 = .ok (.iload_n 1, 1) := by decide +kernel
theorem dX3_has_10 : decode cX3_has 10 = .ok (.invokestatic 22, 3) := by decide +kernel
theorem dX3_has_13 : decode cX3_has 13 = .ok (.iload_n 1, 1) := by decide +kernel
theorem dX3_has_14 : decode cX3_has 14 = .ok (.invokevirtual 26, 3) := by decide +kernel
theorem dX3_has_17 : decode cX3_has 17 = .ok (.ireturn, 1) := by decide +kernel
theorem dX3_hasAt_0 : decode cX3_hasAt 0 = .ok (.iload_n 1, 1) := by decide +kernel
theorem dX3_hasAt_1 : decode cX3_hasAt 1 = .ok (.aload_n 0, 1) := by decide +kernel
theorem dX3_hasAt_2 : decode cX3_hasAt 2 = .ok (.getfield 18, 3) := by decide +kernel
theorem dX3_hasAt_5 : decode cX3_hasAt 5 = .ok (.if_icmp .ge 17, 3) := by decide +kernel
theorem dX3_hasAt_8 : decode cX3_hasAt 8 = .ok (.aload_n 0, 1) := by decide +kernel
theorem dX3_hasAt_9 : decode cX3_hasAt 9 = .ok (.getfield 9, 3) := by decide +kernel
theorem dX3_hasAt_12 : decode cX3_hasAt 12 = .ok (.iload_n 1, 1) := by decide +kernel
theorem dX3_hasAt_13 : decode cX3_hasAt 13 = .ok (.iaload, 1) := by decide +kernel
theorem dX3_hasAt_14 : decode cX3_hasAt 14 = .ok (.iload_n 2, 1) := by decide +kernel
theorem dX3_hasAt_15 : decode cX3_hasAt 15 = .ok (.if_icmp .ne 7, 3) := by decide +kernel
theorem dX3_hasAt_18 : decode cX3_hasAt 18 = .ok (.iconst 1, 1) := by decide +kernel
theorem dX3_hasAt_19 : decode cX3_hasAt 19 = .ok (.goto 4, 3) := by decide +kernel
theorem dX3_hasAt_22 : decode cX3_hasAt 22 = .ok (.iconst 0, 1) := by decide +kernel
theorem dX3_hasAt_23 : decode cX3_hasAt 23 = .ok (.ireturn, 1) := by decide +kernel
theorem dX3_valueOf_0 : decode cX3_valueOf 0 = .ok (.aload_n 0, 1) := by decide +kernel
theorem dX3_valueOf_1 : decode cX3_valueOf 1 = .ok (.getfield 9, 3) := by decide +kernel
theorem dX3_valueOf_4 : decode cX3_valueOf 4 = .ok (.aload_n 0, 1) := by decide +kernel
theorem dX3_valueOf_5 : decode cX3_valueOf 5 = .ok (.getfield 18, 3) := by decide +kernel
theorem dX3_valueOf_8 : decode cX3_valueOf 8 = .ok (.iload_n 1, 1) := by decide +kernel
theorem dX3_valueOf_9 : decode cX3_valueOf 9 = .ok (.invokestatic 22, 3) := by decide +kernel
theorem dX3_valueOf_12 : decode cX3_valueOf 12 = .ok (.istore_n 2, 1) := by decide +kernel
theorem dX3_valueOf_13 : decode cX3_valueOf 13 = .ok (.aload_n 0, 1) := by decide +kernel
theorem dX3_valueOf_14 : decode cX3_valueOf 14 = .ok (.iload_n 2, 1) := by decide +kernel
theorem dX3_valueOf_15 : decode cX3_valueOf 15 = .ok (.iload_n 1, 1) := by decide +kernel
theorem dX3_valueOf_16 : decode cX3_valueOf 16 = .ok (.invokevirtual 26, 3) := by decide +kernel
theorem dX3_valueOf_19 : decode cX3_valueOf 19 = .ok (.ifCond .eq 12, 3) := by decide +kernel
theorem dX3_valueOf_22 : decode cX3_valueOf 22 = .ok (.aload_n 0, 1) := by decide +kernel
theorem dX3_valueOf_23 : decode cX3_valueOf 23 = .ok (.getfield 15, 3) := by decide +kernel
theorem dX3_valueOf_26 : decode cX3_valueOf 26 = .ok (.iload_n 2, 1) := by decide +kernel
theorem dX3_valueOf_27 : decode cX3_valueOf 27 = .ok (.iaload, 1) := by decide +kernel
theorem dX3_valueOf_28 : decode cX3_valueOf 28 = .ok (.goto 4, 3) := by decide +kernel
theorem dX3_valueOf_31 : decode cX3_valueOf 31 = .ok (.iconst 0, 1) := by decide +kernel
theorem dX3_valueOf_32 : decode cX3_valueOf 32 = .ok (.ireturn, 1) := by decide +kernel
theorem dX3_set_0 : decode cX3_set 0 = .ok (.aload_n 0, 1) := by decide +kernel
theorem dX3_set_1 : decode cX3_set 1 = .ok (.getfield 9, 3) := by decide +kernel
theorem dX3_set_4 : decode cX3_set 4 = .ok (.aload_n 0, 1) := by decide +kernel
theorem dX3_set_5 : decode cX3_set 5 = .ok (.getfield 18, 3) := by decide +kernel
theorem dX3_set_8 : decode cX3_set 8 = .ok (.iload_n 1, 1) := by decide +kernel
theorem dX3_set_9 : decode cX3_set 9 = .ok (.invokestatic 22, 3) := by decide +kernel
theorem dX3_set_12 : decode cX3_set 12 = .ok (.istore_n 3, 1) := by decide +kernel
theorem dX3_set_13 : decode cX3_set 13 = .ok (.aload_n 0, 1) := by decide +kernel
theorem dX3_set_14 : decode cX3_set 14 = .ok (.iload_n 3, 1) := by decide +kernel
theorem dX3_set_15 : decode cX3_set 15 = .ok (.iload_n 1, 1) := by decide +kernel
theorem dX3_set_16 : decode cX3_set 16 = .ok (.invokevirtual 26, 3) := by decide +kernel
theorem dX3_set_19 : decode cX3_set 19 = .ok (.ifCond .eq 11, 3) := by decide +kernel
theorem dX3_set_22 : decode cX3_set 22 = .ok (.aload_n 0, 1) := by decide +kernel
theorem dX3_set_23 : decode cX3_set 23 = .ok (.getfield 15, 3) := by decide +kernel
theorem dX3_set_26 : decode cX3_set 26 = .ok (.iload_n 3, 1) := by decide +kernel
theorem dX3_set_27 : decode cX3_set 27 = .ok (.iload_n 2, 1) := by decide +kernel
theorem dX3_set_28 : decode cX3_set 28 = .ok (.iastore, 1) := by decide +kernel
theorem dX3_set_29 : decode cX3_set 29 = .ok (.return_, 1) := by decide +kernel
theorem dX3_set_30 : decode cX3_set 30 = .ok (.aload_n 0, 1) := by decide +kernel
theorem dX3_set_31 : decode cX3_set 31 = .ok (.aload_n 0, 1) := by decide +kernel
theorem dX3_set_32 : decode cX3_set 32 = .ok (.getfield 9, 3) := by decide +kernel
theorem dX3_set_35 : decode cX3_set 35 = .ok (.aload_n 0, 1) := by decide +kernel
theorem dX3_set_36 : decode cX3_set 36 = .ok (.getfield 18, 3) := by decide +kernel
theorem dX3_set_39 : decode cX3_set 39 = .ok (.iload_n 3, 1) := by decide +kernel
theorem dX3_set_40 : decode cX3_set 40 = .ok (.iload_n 1, 1) := by decide +kernel
theorem dX3_set_41 : decode cX3_set 41 = .ok (.invokestatic 30, 3) := by decide +kernel
theorem dX3_set_44 : decode cX3_set 44 = .ok (.putfield 9, 3) := by decide +kernel
theorem dX3_set_47 : decode cX3_set 47 = .ok (.aload_n 0, 1) := by decide +kernel
theorem dX3_set_48 : decode cX3_set 48 = .ok (.aload_n 0, 1) := by decide +kernel
theorem dX3_set_49 : decode cX3_set 49 = .ok (.getfield 15, 3) := by decide +kernel
theorem dX3_set_52 : decode cX3_set 52 = .ok (.aload_n 0, 1) := by decide +kernel
theorem dX3_set_53 : decode cX3_set 53 = .ok (.getfield 18, 3) := by decide +kernel
theorem dX3_set_56 : decode cX3_set 56 = .ok (.iload_n 3, 1) := by decide +kernel
theorem dX3_set_57 : decode cX3_set 57 = .ok (.iload_n 2, 1) := by decide +kernel
theorem dX3_set_58 : decode cX3_set 58 = .ok (.invokestatic 30, 3) := by decide +kernel
theorem dX3_set_61 : decode cX3_set 61 = .ok (.putfield 15, 3) := by decide +kernel
theorem dX3_set_64 : decode cX3_set 64 = .ok (.aload_n 0, 1) := by decide +kernel
theorem dX3_set_65 : decode cX3_set 65 = .ok (.dup, 1) := by decide +kernel
theorem dX3_set_66 : decode cX3_set 66 = .ok (.getfield 18, 3) := by decide +kernel
theorem dX3_set_69 : decode cX3_set 69 = .ok (.iconst 1, 1) := by decide +kernel
theorem dX3_set_70 : decode cX3_set 70 = .ok (.iadd, 1) := by decide +kernel
theorem dX3_set_71 : decode cX3_set 71 = .ok (.putfield 18, 3) := by decide +kernel
theorem dX3_set_74 : decode cX3_set 74 = .ok (.return_, 1) := by decide +kernel
theorem dX3_drop_0 : decode cX3_drop 0 = .ok (.aload_n 0, 1) := by decide +kernel
theorem dX3_drop_1 : decode cX3_drop 1 = .ok (.getfield 9, 3) := by decide +kernel
theorem dX3_drop_4 : decode cX3_drop 4 = .ok (.aload_n 0, 1) := by decide +kernel
theorem dX3_drop_5 : decode cX3_drop 5 = .ok (.getfield 18, 3) := by decide +kernel
theorem dX3_drop_8 : decode cX3_drop 8 = .ok (.iload_n 1, 1) := by decide +kernel
theorem dX3_drop_9 : decode cX3_drop 9 = .ok (.invokestatic 22, 3) := by decide +kernel
theorem dX3_drop_12 : decode cX3_drop 12 = .ok (.istore_n 2, 1) := by decide +kernel
theorem dX3_drop_13 : decode cX3_drop 13 = .ok (.aload_n 0, 1) := by decide +kernel
theorem dX3_drop_14 : decode cX3_drop 14 = .ok (.iload_n 2, 1) := by decide +kernel
theorem dX3_drop_15 : decode cX3_drop 15 = .ok (.iload_n 1, 1) := by decide +kernel
theorem dX3_drop_16 : decode cX3_drop 16 = .ok (.invokevirtual 26, 3) := by decide +kernel
theorem dX3_drop_19 : decode cX3_drop 19 = .ok (.ifCond .eq 55, 3) := by decide +kernel
theorem dX3_drop_22 : decode cX3_drop 22 = .ok (.aload_n 0, 1) := by decide +kernel
theorem dX3_drop_23 : decode cX3_drop 23 = .ok (.dup, 1) := by decide +kernel
theorem dX3_drop_24 : decode cX3_drop 24 = .ok (.getfield 18, 3) := by decide +kernel
theorem dX3_drop_27 : decode cX3_drop 27 = .ok (.iconst 1, 1) := by decide +kernel
theorem dX3_drop_28 : decode cX3_drop 28 = .ok (.isub, 1) := by decide +kernel
theorem dX3_drop_29 : decode cX3_drop 29 = .ok (.putfield 18, 3) := by decide +kernel
theorem dX3_drop_32 : decode cX3_drop 32 = .ok (.aload_n 0, 1) := by decide +kernel
theorem dX3_drop_33 : decode cX3_drop 33 = .ok (.getfield 9, 3) := by decide +kernel
theorem dX3_drop_36 : decode cX3_drop 36 = .ok (.iload_n 2, 1) := by decide +kernel
theorem dX3_drop_37 : decode cX3_drop 37 = .ok (.iconst 1, 1) := by decide +kernel
theorem dX3_drop_38 : decode cX3_drop 38 = .ok (.iadd, 1) := by decide +kernel
theorem dX3_drop_39 : decode cX3_drop 39 = .ok (.aload_n 0, 1) := by decide +kernel
theorem dX3_drop_40 : decode cX3_drop 40 = .ok (.getfield 9, 3) := by decide +kernel
theorem dX3_drop_43 : decode cX3_drop 43 = .ok (.iload_n 2, 1) := by decide +kernel
theorem dX3_drop_44 : decode cX3_drop 44 = .ok (.aload_n 0, 1) := by decide +kernel
theorem dX3_drop_45 : decode cX3_drop 45 = .ok (.getfield 18, 3) := by decide +kernel
theorem dX3_drop_48 : decode cX3_drop 48 = .ok (.iload_n 2, 1) := by decide +kernel
theorem dX3_drop_49 : decode cX3_drop 49 = .ok (.isub, 1) := by decide +kernel
theorem dX3_drop_50 : decode cX3_drop 50 = .ok (.invokestatic 34, 3) := by decide +kernel
theorem dX3_drop_53 : decode cX3_drop 53 = .ok (.aload_n 0, 1) := by decide +kernel
theorem dX3_drop_54 : decode cX3_drop 54 = .ok (.getfield 15, 3) := by decide +kernel
theorem dX3_drop_57 : decode cX3_drop 57 = .ok (.iload_n 2, 1) := by decide +kernel
theorem dX3_drop_58 : decode cX3_drop 58 = .ok (.iconst 1, 1) := by decide +kernel
theorem dX3_drop_59 : decode cX3_drop 59 = .ok (.iadd, 1) := by decide +kernel
theorem dX3_drop_60 : decode cX3_drop 60 = .ok (.aload_n 0, 1) := by decide +kernel
theorem dX3_drop_61 : decode cX3_drop 61 = .ok (.getfield 15, 3) := by decide +kernel
theorem dX3_drop_64 : decode cX3_drop 64 = .ok (.iload_n 2, 1) := by decide +kernel
theorem dX3_drop_65 : decode cX3_drop 65 = .ok (.aload_n 0, 1) := by decide +kernel
theorem dX3_drop_66 : decode cX3_drop 66 = .ok (.getfield 18, 3) := by decide +kernel
theorem dX3_drop_69 : decode cX3_drop 69 = .ok (.iload_n 2, 1) := by decide +kernel
theorem dX3_drop_70 : decode cX3_drop 70 = .ok (.isub, 1) := by decide +kernel
theorem dX3_drop_71 : decode cX3_drop 71 = .ok (.invokestatic 34, 3) := by decide +kernel
theorem dX3_drop_74 : decode cX3_drop 74 = .ok (.return_, 1) := by decide +kernel
