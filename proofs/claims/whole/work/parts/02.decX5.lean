theorem dX5_init_0 : decode cX5_init 0 = .ok (.aload_n 0, 1) := by decide +kernel
theorem dX5_init_1 : decode cX5_init 1 = .ok (.invokespecial 1, 3) := by decide +kernel
theorem dX5_init_4 : decode cX5_init 4 = .ok (.aload_n 0, 1) := by decide +kernel
theorem dX5_init_5 : decode cX5_init 5 = .ok (.sipush 238, 3) := by decide +kernel
theorem dX5_init_8 : decode cX5_init 8 = .ok (.newarray .int, 2) := by decide +kernel
theorem dX5_init_10 : decode cX5_init 10 = .ok (.putfield 7, 3) := by decide +kernel
theorem dX5_init_13 : decode cX5_init 13 = .ok (.aload_n 0, 1) := by decide +kernel
theorem dX5_init_14 : decode cX5_init 14 = .ok (.sipush 238, 3) := by decide +kernel
theorem dX5_init_17 : decode cX5_init 17 = .ok (.newarray .int, 2) := by decide +kernel
theorem dX5_init_19 : decode cX5_init 19 = .ok (.putfield 13, 3) := by decide +kernel
theorem dX5_init_22 : decode cX5_init 22 = .ok (.aload_n 0, 1) := by decide +kernel
theorem dX5_init_23 : decode cX5_init 23 = .ok (.sipush 238, 3) := by decide +kernel
theorem dX5_init_26 : decode cX5_init 26 = .ok (.newarray .int, 2) := by decide +kernel
theorem dX5_init_28 : decode cX5_init 28 = .ok (.putfield 16, 3) := by decide +kernel
theorem dX5_init_31 : decode cX5_init 31 = .ok (.aload_n 0, 1) := by decide +kernel
theorem dX5_init_32 : decode cX5_init 32 = .ok (.sipush 476, 3) := by decide +kernel
theorem dX5_init_35 : decode cX5_init 35 = .ok (.newarray .int, 2) := by decide +kernel
theorem dX5_init_37 : decode cX5_init 37 = .ok (.putfield 19, 3) := by decide +kernel
theorem dX5_init_40 : decode cX5_init 40 = .ok (.aload_n 0, 1) := by decide +kernel
theorem dX5_init_41 : decode cX5_init 41 = .ok (.iconst 2, 1) := by decide +kernel
theorem dX5_init_42 : decode cX5_init 42 = .ok (.newarray .boolean, 2) := by decide +kernel
theorem dX5_init_44 : decode cX5_init 44 = .ok (.putfield 22, 3) := by decide +kernel
theorem dX5_init_47 : decode cX5_init 47 = .ok (.aload_n 0, 1) := by decide +kernel
theorem dX5_init_48 : decode cX5_init 48 = .ok (.sipush 160, 3) := by decide +kernel
theorem dX5_init_51 : decode cX5_init 51 = .ok (.newarray .int, 2) := by decide +kernel
theorem dX5_init_53 : decode cX5_init 53 = .ok (.putfield 26, 3) := by decide +kernel
theorem dX5_init_56 : decode cX5_init 56 = .ok (.aload_n 0, 1) := by decide +kernel
theorem dX5_init_57 : decode cX5_init 57 = .ok (.iconst 4, 1) := by decide +kernel
theorem dX5_init_58 : decode cX5_init 58 = .ok (.newarray .int, 2) := by decide +kernel
theorem dX5_init_60 : decode cX5_init 60 = .ok (.putfield 29, 3) := by decide +kernel
theorem dX5_init_63 : decode cX5_init 63 = .ok (.aload_n 0, 1) := by decide +kernel
theorem dX5_init_64 : decode cX5_init 64 = .ok (.sipush 2401, 3) := by decide +kernel
theorem dX5_init_67 : decode cX5_init 67 = .ok (.newarray .int, 2) := by decide +kernel
theorem dX5_init_69 : decode cX5_init 69 = .ok (.putfield 32, 3) := by decide +kernel
theorem dX5_init_72 : decode cX5_init 72 = .ok (.aload_n 0, 1) := by decide +kernel
theorem dX5_init_73 : decode cX5_init 73 = .ok (.sipush 2401, 3) := by decide +kernel
theorem dX5_init_76 : decode cX5_init 76 = .ok (.newarray .boolean, 2) := by decide +kernel
theorem dX5_init_78 : decode cX5_init 78 = .ok (.putfield 35, 3) := by decide +kernel
theorem dX5_init_81 : decode cX5_init 81 = .ok (.aload_n 0, 1) := by decide +kernel
theorem dX5_init_82 : decode cX5_init 82 = .ok (.sipush 2401, 3) := by decide +kernel
theorem dX5_init_85 : decode cX5_init 85 = .ok (.newarray .boolean, 2) := by decide +kernel
theorem dX5_init_87 : decode cX5_init 87 = .ok (.putfield 38, 3) := by decide +kernel
theorem dX5_init_90 : decode cX5_init 90 = .ok (.aload_n 0, 1) := by decide +kernel
theorem dX5_init_91 : decode cX5_init 91 = .ok (.iconst 4, 1) := by decide +kernel
theorem dX5_init_92 : decode cX5_init 92 = .ok (.newarray .int, 2) := by decide +kernel
theorem dX5_init_94 : decode cX5_init 94 = .ok (.putfield 41, 3) := by decide +kernel
theorem dX5_init_97 : decode cX5_init 97 = .ok (.aload_n 0, 1) := by decide +kernel
theorem dX5_init_98 : decode cX5_init 98 = .ok (.iconst 4, 1) := by decide +kernel
theorem dX5_init_99 : decode cX5_init 99 = .ok (.newarray .int, 2) := by decide +kernel
theorem dX5_init_101 : decode cX5_init 101 = .ok (.putfield 44, 3) := by decide +kernel
theorem dX5_init_104 : decode cX5_init 104 = .ok (.aload_n 0, 1) := by decide +kernel
theorem dX5_init_105 : decode cX5_init 105 = .ok (.iconst 4, 1) := by decide +kernel
theorem dX5_init_106 : decode cX5_init 106 = .ok (.newarray .int, 2) := by decide +kernel
theorem dX5_init_108 : decode cX5_init 108 = .ok (.putfield 47, 3) := by decide +kernel
theorem dX5_init_111 : decode cX5_init 111 = .ok (.aload_n 0, 1) := by decide +kernel
theorem dX5_init_112 : decode cX5_init 112 = .ok (.sipush 160, 3) := by decide +kernel
theorem dX5_init_115 : decode cX5_init 115 = .ok (.newarray .int, 2) := by decide +kernel
theorem dX5_init_117 : decode cX5_init 117 = .ok (.putfield 50, 3) := by decide +kernel
theorem dX5_init_120 : decode cX5_init 120 = .ok (.iconst 0, 1) := by decide +kernel
theorem dX5_init_121 : decode cX5_init 121 = .ok (.istore_n 1, 1) := by decide +kernel
theorem dX5_init_122 : decode cX5_init 122 = .ok (.iload_n 1, 1) := by decide +kernel
theorem dX5_init_123 : decode cX5_init 123 = .ok (.iconst 4, 1) := by decide +kernel
theorem dX5_init_124 : decode cX5_init 124 = .ok (.if_icmp .ge 17, 3) := by decide +kernel
theorem dX5_init_127 : decode cX5_init 127 = .ok (.aload_n 0, 1) := by decide +kernel
theorem dX5_init_128 : decode cX5_init 128 = .ok (.getfield 44, 3) := by decide +kernel
theorem dX5_init_131 : decode cX5_init 131 = .ok (.iload_n 1, 1) := by decide +kernel
theorem dX5_init_132 : decode cX5_init 132 = .ok (.bipush (-4), 2) := by decide +kernel
theorem dX5_init_134 : decode cX5_init 134 = .ok (.iastore, 1) := by decide +kernel
theorem dX5_init_135 : decode cX5_init 135 = .ok (.iinc 1 1, 3) := by decide +kernel
theorem dX5_init_138 : decode cX5_init 138 = .ok (.goto (-16), 3) := by decide +kernel
theorem dX5_init_141 : decode cX5_init 141 = .ok (.return_, 1) := by decide +kernel
theorem dX5_in_0 : decode cX5_in 0 = .ok (.lload_n 0, 1) := by decide +kernel
theorem dX5_in_1 : decode cX5_in 1 = .ok (.lload_n 2, 1) := by decide +kernel
theorem dX5_in_2 : decode cX5_in 2 = .ok (.lcmp, 1) := by decide +kernel
theorem dX5_in_3 : decode cX5_in 3 = .ok (.ifCond .lt 14, 3) := by decide +kernel
theorem dX5_in_6 : decode cX5_in 6 = .ok (.lload_n 0, 1) := by decide +kernel
theorem dX5_in_7 : decode cX5_in 7 = .ok (.lload 4, 2) := by decide +kernel
theorem dX5_in_9 : decode cX5_in 9 = .ok (.lcmp, 1) := by decide +kernel
theorem dX5_in_10 : decode cX5_in 10 = .ok (.ifCond .gt 7, 3) := by decide +kernel
theorem dX5_in_13 : decode cX5_in 13 = .ok (.iconst 1, 1) := by decide +kernel
theorem dX5_in_14 : decode cX5_in 14 = .ok (.goto 4, 3) := by decide +kernel
theorem dX5_in_17 : decode cX5_in 17 = .ok (.iconst 0, 1) := by decide +kernel
theorem dX5_in_18 : decode cX5_in 18 = .ok (.ireturn, 1) := by decide +kernel
theorem dX5_flag_0 : decode cX5_flag 0 = .ok (.iload_n 0, 1) := by decide +kernel
theorem dX5_flag_1 : decode cX5_flag 1 = .ok (.ifCond .eq 7, 3) := by decide +kernel
theorem dX5_flag_4 : decode cX5_flag 4 = .ok (.iconst 1, 1) := by decide +kernel
theorem dX5_flag_5 : decode cX5_flag 5 = .ok (.goto 4, 3) := by decide +kernel
theorem dX5_flag_8 : decode cX5_flag 8 = .ok (.iconst 0, 1) := by decide +kernel
theorem dX5_flag_9 : decode cX5_flag 9 = .ok (.ireturn, 1) := by decide +kernel
theorem dX5_keepBefore_0 : decode cX5_keepBefore 0 = .ok (.iconst 0, 1) := by decide +kernel
theorem dX5_keepBefore_1 : decode cX5_keepBefore 1 = .ok (.istore_n 1, 1) := by decide +kernel
theorem dX5_keepBefore_2 : decode cX5_keepBefore 2 = .ok (.iload_n 1, 1) := by decide +kernel
theorem dX5_keepBefore_3 : decode cX5_keepBefore 3 = .ok (.sipush 238, 3) := by decide +kernel
theorem dX5_keepBefore_6 : decode cX5_keepBefore 6 = .ok (.if_icmp .ge 21, 3) := by decide +kernel
theorem dX5_keepBefore_9 : decode cX5_keepBefore 9 = .ok (.aload_n 0, 1) := by decide +kernel
theorem dX5_keepBefore_10 : decode cX5_keepBefore 10 = .ok (.getfield 16, 3) := by decide +kernel
theorem dX5_keepBefore_13 : decode cX5_keepBefore 13 = .ok (.iload_n 1, 1) := by decide +kernel
theorem dX5_keepBefore_14 : decode cX5_keepBefore 14 = .ok (.aload_n 0, 1) := by decide +kernel
theorem dX5_keepBefore_15 : decode cX5_keepBefore 15 = .ok (.getfield 7, 3) := by decide +kernel
theorem dX5_keepBefore_18 : decode cX5_keepBefore 18 = .ok (.iload_n 1, 1) := by decide +kernel
theorem dX5_keepBefore_19 : decode cX5_keepBefore 19 = .ok (.iaload, 1) := by decide +kernel
theorem dX5_keepBefore_20 : decode cX5_keepBefore 20 = .ok (.iastore, 1) := by decide +kernel
theorem dX5_keepBefore_21 : decode cX5_keepBefore 21 = .ok (.iinc 1 1, 3) := by decide +kernel
theorem dX5_keepBefore_24 : decode cX5_keepBefore 24 = .ok (.goto (-22), 3) := by decide +kernel
theorem dX5_keepBefore_27 : decode cX5_keepBefore 27 = .ok (.return_, 1) := by decide +kernel
theorem dX5_backBefore_0 : decode cX5_backBefore 0 = .ok (.iconst 0, 1) := by decide +kernel
theorem dX5_backBefore_1 : decode cX5_backBefore 1 = .ok (.istore_n 1, 1) := by decide +kernel
theorem dX5_backBefore_2 : decode cX5_backBefore 2 = .ok (.iload_n 1, 1) := by decide +kernel
theorem dX5_backBefore_3 : decode cX5_backBefore 3 = .ok (.sipush 238, 3) := by decide +kernel
theorem dX5_backBefore_6 : decode cX5_backBefore 6 = .ok (.if_icmp .ge 21, 3) := by decide +kernel
theorem dX5_backBefore_9 : decode cX5_backBefore 9 = .ok (.aload_n 0, 1) := by decide +kernel
theorem dX5_backBefore_10 : decode cX5_backBefore 10 = .ok (.getfield 7, 3) := by decide +kernel
theorem dX5_backBefore_13 : decode cX5_backBefore 13 = .ok (.iload_n 1, 1) := by decide +kernel
theorem dX5_backBefore_14 : decode cX5_backBefore 14 = .ok (.aload_n 0, 1) := by decide +kernel
theorem dX5_backBefore_15 : decode cX5_backBefore 15 = .ok (.getfield 16, 3) := by decide +kernel
theorem dX5_backBefore_18 : decode cX5_backBefore 18 = .ok (.iload_n 1, 1) := by decide +kernel
theorem dX5_backBefore_19 : decode cX5_backBefore 19 = .ok (.iaload, 1) := by decide +kernel
theorem dX5_backBefore_20 : decode cX5_backBefore 20 = .ok (.iastore, 1) := by decide +kernel
theorem dX5_backBefore_21 : decode cX5_backBefore 21 = .ok (.iinc 1 1, 3) := by decide +kernel
theorem dX5_backBefore_24 : decode cX5_backBefore 24 = .ok (.goto (-22), 3) := by decide +kernel
theorem dX5_backBefore_27 : decode cX5_backBefore 27 = .ok (.return_, 1) := by decide +kernel
theorem dX5_feed_0 : decode cX5_feed 0 = .ok (.iload_n 1, 1) := by decide +kernel
theorem dX5_feed_1 : decode cX5_feed 1 = .ok (.i2l, 1) := by decide +kernel
theorem dX5_feed_2 : decode cX5_feed 2 = .ok (.lconst 0, 1) := by decide +kernel
theorem dX5_feed_3 : decode cX5_feed 3 = .ok (.ldc2_w 53, 3) := by decide +kernel
theorem dX5_feed_6 : decode cX5_feed 6 = .ok (.invokestatic 55, 3) := by decide +kernel
theorem dX5_feed_9 : decode cX5_feed 9 = .ok (.ifCond .ne 5, 3) := by decide +kernel
theorem dX5_feed_12 : decode cX5_feed 12 = .ok (.iconst (-1), 1) := by decide +kernel
theorem dX5_feed_13 : decode cX5_feed 13 = .ok (.ireturn, 1) := by decide +kernel
theorem dX5_feed_14 : decode cX5_feed 14 = .ok (.aload_n 0, 1) := by decide +kernel
theorem dX5_feed_15 : decode cX5_feed 15 = .ok (.getfield 59, 3) := by decide +kernel
theorem dX5_feed_18 : decode cX5_feed 18 = .ok (.sipush 160, 3) := by decide +kernel
theorem dX5_feed_21 : decode cX5_feed 21 = .ok (.if_icmp .ne 6, 3) := by decide +kernel
theorem dX5_feed_24 : decode cX5_feed 24 = .ok (.bipush (-3), 2) := by decide +kernel
theorem dX5_feed_26 : decode cX5_feed 26 = .ok (.ireturn, 1) := by decide +kernel
theorem dX5_feed_27 : decode cX5_feed 27 = .ok (.aload_n 0, 1) := by decide +kernel
theorem dX5_feed_28 : decode cX5_feed 28 = .ok (.getfield 26, 3) := by decide +kernel
theorem dX5_feed_31 : decode cX5_feed 31 = .ok (.aload_n 0, 1) := by decide +kernel
theorem dX5_feed_32 : decode cX5_feed 32 = .ok (.getfield 59, 3) := by decide +kernel
theorem dX5_feed_35 : decode cX5_feed 35 = .ok (.iload_n 1, 1) := by decide +kernel
theorem dX5_feed_36 : decode cX5_feed 36 = .ok (.iastore, 1) := by decide +kernel
theorem dX5_feed_37 : decode cX5_feed 37 = .ok (.aload_n 0, 1) := by decide +kernel
theorem dX5_feed_38 : decode cX5_feed 38 = .ok (.dup, 1) := by decide +kernel
theorem dX5_feed_39 : decode cX5_feed 39 = .ok (.getfield 59, 3) := by decide +kernel
theorem dX5_feed_42 : decode cX5_feed 42 = .ok (.iconst 1, 1) := by decide +kernel
theorem dX5_feed_43 : decode cX5_feed 43 = .ok (.iadd, 1) := by decide +kernel
theorem dX5_feed_44 : decode cX5_feed 44 = .ok (.putfield 59, 3) := by decide +kernel
theorem dX5_feed_47 : decode cX5_feed 47 = .ok (.aload_n 0, 1) := by decide +kernel
theorem dX5_feed_48 : decode cX5_feed 48 = .ok (.getfield 59, 3) := by decide +kernel
theorem dX5_feed_51 : decode cX5_feed 51 = .ok (.ireturn, 1) := by decide +kernel
theorem dX5_end_0 : decode cX5_end 0 = .ok (.iload_n 1, 1) := by decide +kernel
theorem dX5_end_1 : decode cX5_end 1 = .ok (.i2l, 1) := by decide +kernel
theorem dX5_end_2 : decode cX5_end 2 = .ok (.lconst 0, 1) := by decide +kernel
theorem dX5_end_3 : decode cX5_end 3 = .ok (.aload_n 0, 1) := by decide +kernel
theorem dX5_end_4 : decode cX5_end 4 = .ok (.getfield 59, 3) := by decide +kernel
theorem dX5_end_7 : decode cX5_end 7 = .ok (.i2l, 1) := by decide +kernel
theorem dX5_end_8 : decode cX5_end 8 = .ok (.invokestatic 55, 3) := by decide +kernel
theorem dX5_end_11 : decode cX5_end 11 = .ok (.ifCond .ne 5, 3) := by decide +kernel
theorem dX5_end_14 : decode cX5_end 14 = .ok (.iconst (-1), 1) := by decide +kernel
theorem dX5_end_15 : decode cX5_end 15 = .ok (.ireturn, 1) := by decide +kernel
theorem dX5_end_16 : decode cX5_end 16 = .ok (.aload_n 0, 1) := by decide +kernel
theorem dX5_end_17 : decode cX5_end 17 = .ok (.getfield 59, 3) := by decide +kernel
theorem dX5_end_20 : decode cX5_end 20 = .ok (.istore_n 2, 1) := by decide +kernel
theorem dX5_end_21 : decode cX5_end 21 = .ok (.aload_n 0, 1) := by decide +kernel
theorem dX5_end_22 : decode cX5_end 22 = .ok (.iload_n 1, 1) := by decide +kernel
theorem dX5_end_23 : decode cX5_end 23 = .ok (.putfield 59, 3) := by decide +kernel
theorem dX5_end_26 : decode cX5_end 26 = .ok (.iload_n 2, 1) := by decide +kernel
theorem dX5_end_27 : decode cX5_end 27 = .ok (.ireturn, 1) := by decide +kernel
theorem dX5_requires_0 : decode cX5_requires 0 = .ok (.iload_n 1, 1) := by decide +kernel
theorem dX5_requires_1 : decode cX5_requires 1 = .ok (.ifCond .ne 23, 3) := by decide +kernel
theorem dX5_requires_4 : decode cX5_requires 4 = .ok (.aload_n 0, 1) := by decide +kernel
theorem dX5_requires_5 : decode cX5_requires 5 = .ok (.getfield 63, 3) := by decide +kernel
theorem dX5_requires_8 : decode cX5_requires 8 = .ok (.ifCond .ne 16, 3) := by decide +kernel
theorem dX5_requires_11 : decode cX5_requires 11 = .ok (.aload_n 0, 1) := by decide +kernel
theorem dX5_requires_12 : decode cX5_requires 12 = .ok (.iload_n 2, 1) := by decide +kernel
theorem dX5_requires_13 : decode cX5_requires 13 = .ok (.putfield 63, 3) := by decide +kernel
theorem dX5_requires_16 : decode cX5_requires 16 = .ok (.aload_n 0, 1) := by decide +kernel
theorem dX5_requires_17 : decode cX5_requires 17 = .ok (.aload_n 0, 1) := by decide +kernel
theorem dX5_requires_18 : decode cX5_requires 18 = .ok (.getfield 66, 3) := by decide +kernel
theorem dX5_requires_21 : decode cX5_requires 21 = .ok (.putfield 69, 3) := by decide +kernel
theorem dX5_requires_24 : decode cX5_requires 24 = .ok (.return_, 1) := by decide +kernel
theorem dX5_byteAt_0 : decode cX5_byteAt 0 = .ok (.iload_n 1, 1) := by decide +kernel
theorem dX5_byteAt_1 : decode cX5_byteAt 1 = .ok (.aload_n 0, 1) := by decide +kernel
theorem dX5_byteAt_2 : decode cX5_byteAt 2 = .ok (.getfield 59, 3) := by decide +kernel
theorem dX5_byteAt_5 : decode cX5_byteAt 5 = .ok (.if_icmp .ge 12, 3) := by decide +kernel
theorem dX5_byteAt_8 : decode cX5_byteAt 8 = .ok (.aload_n 0, 1) := by decide +kernel
theorem dX5_byteAt_9 : decode cX5_byteAt 9 = .ok (.getfield 26, 3) := by decide +kernel
theorem dX5_byteAt_12 : decode cX5_byteAt 12 = .ok (.iload_n 1, 1) := by decide +kernel
theorem dX5_byteAt_13 : decode cX5_byteAt 13 = .ok (.iaload, 1) := by decide +kernel
theorem dX5_byteAt_14 : decode cX5_byteAt 14 = .ok (.goto 4, 3) := by decide +kernel
theorem dX5_byteAt_17 : decode cX5_byteAt 17 = .ok (.iconst (-1), 1) := by decide +kernel
theorem dX5_byteAt_18 : decode cX5_byteAt 18 = .ok (.ireturn, 1) := by decide +kernel
theorem dX5_is_0 : decode cX5_is 0 = .ok (.aload_n 0, 1) := by decide +kernel
theorem dX5_is_1 : decode cX5_is 1 = .ok (.getfield 72, 3) := by decide +kernel
theorem dX5_is_4 : decode cX5_is 4 = .ok (.iconst 1, 1) := by decide +kernel
theorem dX5_is_5 : decode cX5_is 5 = .ok (.if_icmp .ne 68, 3) := by decide +kernel
theorem dX5_is_8 : decode cX5_is 8 = .ok (.aload_n 0, 1) := by decide +kernel
theorem dX5_is_9 : decode cX5_is 9 = .ok (.getfield 75, 3) := by decide +kernel
theorem dX5_is_12 : decode cX5_is 12 = .ok (.aload_n 0, 1) := by decide +kernel
theorem dX5_is_13 : decode cX5_is 13 = .ok (.getfield 66, 3) := by decide +kernel
theorem dX5_is_16 : decode cX5_is 16 = .ok (.isub, 1) := by decide +kernel
theorem dX5_is_17 : decode cX5_is 17 = .ok (.iload_n 1, 1) := by decide +kernel
theorem dX5_is_18 : decode cX5_is 18 = .ok (.if_icmp .ne 55, 3) := by decide +kernel
theorem dX5_is_21 : decode cX5_is 21 = .ok (.aload_n 0, 1) := by decide +kernel
theorem dX5_is_22 : decode cX5_is 22 = .ok (.aload_n 0, 1) := by decide +kernel
theorem dX5_is_23 : decode cX5_is 23 = .ok (.getfield 66, 3) := by decide +kernel
theorem dX5_is_26 : decode cX5_is 26 = .ok (.iload_n 2, 1) := by decide +kernel
theorem dX5_is_27 : decode cX5_is 27 = .ok (.iadd, 1) := by decide +kernel
theorem dX5_is_28 : decode cX5_is 28 = .ok (.invokevirtual 78, 3) := by decide +kernel
theorem dX5_is_31 : decode cX5_is 31 = .ok (.iload_n 3, 1) := by decide +kernel
theorem dX5_is_32 : decode cX5_is 32 = .ok (.if_icmp .ne 41, 3) := by decide +kernel
theorem dX5_is_35 : decode cX5_is 35 = .ok (.aload_n 0, 1) := by decide +kernel
theorem dX5_is_36 : decode cX5_is 36 = .ok (.aload_n 0, 1) := by decide +kernel
theorem dX5_is_37 : decode cX5_is 37 = .ok (.getfield 66, 3) := by decide +kernel
theorem dX5_is_40 : decode cX5_is 40 = .ok (.iload_n 2, 1) := by decide +kernel
theorem dX5_is_41 : decode cX5_is 41 = .ok (.iadd, 1) := by decide +kernel
theorem dX5_is_42 : decode cX5_is 42 = .ok (.iconst 1, 1) := by decide +kernel
theorem dX5_is_43 : decode cX5_is 43 = .ok (.iadd, 1) := by decide +kernel
theorem dX5_is_44 : decode cX5_is 44 = .ok (.invokevirtual 78, 3) := by decide +kernel
theorem dX5_is_47 : decode cX5_is 47 = .ok (.iload 4, 2) := by decide +kernel
theorem dX5_is_49 : decode cX5_is 49 = .ok (.if_icmp .ne 24, 3) := by decide +kernel
theorem dX5_is_52 : decode cX5_is 52 = .ok (.aload_n 0, 1) := by decide +kernel
theorem dX5_is_53 : decode cX5_is 53 = .ok (.aload_n 0, 1) := by decide +kernel
theorem dX5_is_54 : decode cX5_is 54 = .ok (.getfield 66, 3) := by decide +kernel
theorem dX5_is_57 : decode cX5_is 57 = .ok (.iload_n 2, 1) := by decide +kernel
theorem dX5_is_58 : decode cX5_is 58 = .ok (.iadd, 1) := by decide +kernel
theorem dX5_is_59 : decode cX5_is 59 = .ok (.iconst 2, 1) := by decide +kernel
theorem dX5_is_60 : decode cX5_is 60 = .ok (.iadd, 1) := by decide +kernel
theorem dX5_is_61 : decode cX5_is 61 = .ok (.invokevirtual 78, 3) := by decide +kernel
theorem dX5_is_64 : decode cX5_is 64 = .ok (.iload 5, 2) := by decide +kernel
theorem dX5_is_66 : decode cX5_is 66 = .ok (.if_icmp .ne 7, 3) := by decide +kernel
theorem dX5_is_69 : decode cX5_is 69 = .ok (.iconst 1, 1) := by decide +kernel
theorem dX5_is_70 : decode cX5_is 70 = .ok (.goto 4, 3) := by decide +kernel
theorem dX5_is_73 : decode cX5_is 73 = .ok (.iconst 0, 1) := by decide +kernel
theorem dX5_is_74 : decode cX5_is 74 = .ok (.ireturn, 1) := by decide +kernel
theorem dX5_lineNow_0 : decode cX5_lineNow 0 = .ok (.aload_n 0, 1) := by decide +kernel
theorem dX5_lineNow_1 : decode cX5_lineNow 1 = .ok (.iconst 5, 1) := by decide +kernel
theorem dX5_lineNow_2 : decode cX5_lineNow 2 = .ok (.iconst 0, 1) := by decide +kernel
theorem dX5_lineNow_3 : decode cX5_lineNow 3 = .ok (.bipush 112, 2) := by decide +kernel
theorem dX5_lineNow_5 : decode cX5_lineNow 5 = .ok (.bipush 108, 2) := by decide +kernel
theorem dX5_lineNow_7 : decode cX5_lineNow 7 = .ok (.bipush 97, 2) := by decide +kernel
theorem dX5_lineNow_9 : decode cX5_lineNow 9 = .ok (.invokevirtual 82, 3) := by decide +kernel
theorem dX5_lineNow_12 : decode cX5_lineNow 12 = .ok (.ifCond .eq 20, 3) := by decide +kernel
theorem dX5_lineNow_15 : decode cX5_lineNow 15 = .ok (.aload_n 0, 1) := by decide +kernel
theorem dX5_lineNow_16 : decode cX5_lineNow 16 = .ok (.iconst 5, 1) := by decide +kernel
theorem dX5_lineNow_17 : decode cX5_lineNow 17 = .ok (.iconst 2, 1) := by decide +kernel
theorem dX5_lineNow_18 : decode cX5_lineNow 18 = .ok (.bipush 97, 2) := by decide +kernel
theorem dX5_lineNow_20 : decode cX5_lineNow 20 = .ok (.bipush 99, 2) := by decide +kernel
theorem dX5_lineNow_22 : decode cX5_lineNow 22 = .ok (.bipush 101, 2) := by decide +kernel
theorem dX5_lineNow_24 : decode cX5_lineNow 24 = .ok (.invokevirtual 82, 3) := by decide +kernel
theorem dX5_lineNow_27 : decode cX5_lineNow 27 = .ok (.ifCond .eq 5, 3) := by decide +kernel
theorem dX5_lineNow_30 : decode cX5_lineNow 30 = .ok (.iconst 0, 1) := by decide +kernel
theorem dX5_lineNow_31 : decode cX5_lineNow 31 = .ok (.ireturn, 1) := by decide +kernel
theorem dX5_lineNow_32 : decode cX5_lineNow 32 = .ok (.aload_n 0, 1) := by decide +kernel
theorem dX5_lineNow_33 : decode cX5_lineNow 33 = .ok (.iconst 5, 1) := by decide +kernel
theorem dX5_lineNow_34 : decode cX5_lineNow 34 = .ok (.iconst 0, 1) := by decide +kernel
theorem dX5_lineNow_35 : decode cX5_lineNow 35 = .ok (.bipush 116, 2) := by decide +kernel
theorem dX5_lineNow_37 : decode cX5_lineNow 37 = .ok (.bipush 114, 2) := by decide +kernel
theorem dX5_lineNow_39 : decode cX5_lineNow 39 = .ok (.bipush 97, 2) := by decide +kernel
theorem dX5_lineNow_41 : decode cX5_lineNow 41 = .ok (.invokevirtual 82, 3) := by decide +kernel
theorem dX5_lineNow_44 : decode cX5_lineNow 44 = .ok (.ifCond .eq 20, 3) := by decide +kernel
theorem dX5_lineNow_47 : decode cX5_lineNow 47 = .ok (.aload_n 0, 1) := by decide +kernel
theorem dX5_lineNow_48 : decode cX5_lineNow 48 = .ok (.iconst 5, 1) := by decide +kernel
theorem dX5_lineNow_49 : decode cX5_lineNow 49 = .ok (.iconst 2, 1) := by decide +kernel
theorem dX5_lineNow_50 : decode cX5_lineNow 50 = .ok (.bipush 97, 2) := by decide +kernel
theorem dX5_lineNow_52 : decode cX5_lineNow 52 = .ok (.bipush 105, 2) := by decide +kernel
theorem dX5_lineNow_54 : decode cX5_lineNow 54 = .ok (.bipush 110, 2) := by decide +kernel
theorem dX5_lineNow_56 : decode cX5_lineNow 56 = .ok (.invokevirtual 82, 3) := by decide +kernel
theorem dX5_lineNow_59 : decode cX5_lineNow 59 = .ok (.ifCond .eq 5, 3) := by decide +kernel
theorem dX5_lineNow_62 : decode cX5_lineNow 62 = .ok (.iconst 2, 1) := by decide +kernel
theorem dX5_lineNow_63 : decode cX5_lineNow 63 = .ok (.ireturn, 1) := by decide +kernel
theorem dX5_lineNow_64 : decode cX5_lineNow 64 = .ok (.aload_n 0, 1) := by decide +kernel
theorem dX5_lineNow_65 : decode cX5_lineNow 65 = .ok (.bipush 7, 2) := by decide +kernel
theorem dX5_lineNow_67 : decode cX5_lineNow 67 = .ok (.iconst 0, 1) := by decide +kernel
theorem dX5_lineNow_68 : decode cX5_lineNow 68 = .ok (.bipush 115, 2) := by decide +kernel
theorem dX5_lineNow_70 : decode cX5_lineNow 70 = .ok (.bipush 101, 2) := by decide +kernel
theorem dX5_lineNow_72 : decode cX5_lineNow 72 = .ok (.bipush 99, 2) := by decide +kernel
theorem dX5_lineNow_74 : decode cX5_lineNow 74 = .ok (.invokevirtual 82, 3) := by decide +kernel
theorem dX5_lineNow_77 : decode cX5_lineNow 77 = .ok (.ifCond .eq 39, 3) := by decide +kernel
theorem dX5_lineNow_80 : decode cX5_lineNow 80 = .ok (.aload_n 0, 1) := by decide +kernel
theorem dX5_lineNow_81 : decode cX5_lineNow 81 = .ok (.bipush 7, 2) := by decide +kernel
theorem dX5_lineNow_83 : decode cX5_lineNow 83 = .ok (.iconst 2, 1) := by decide +kernel
theorem dX5_lineNow_84 : decode cX5_lineNow 84 = .ok (.bipush 99, 2) := by decide +kernel
theorem dX5_lineNow_86 : decode cX5_lineNow 86 = .ok (.bipush 116, 2) := by decide +kernel
theorem dX5_lineNow_88 : decode cX5_lineNow 88 = .ok (.bipush 105, 2) := by decide +kernel
theorem dX5_lineNow_90 : decode cX5_lineNow 90 = .ok (.invokevirtual 82, 3) := by decide +kernel
theorem dX5_lineNow_93 : decode cX5_lineNow 93 = .ok (.ifCond .eq 23, 3) := by decide +kernel
theorem dX5_lineNow_96 : decode cX5_lineNow 96 = .ok (.aload_n 0, 1) := by decide +kernel
theorem dX5_lineNow_97 : decode cX5_lineNow 97 = .ok (.bipush 7, 2) := by decide +kernel
theorem dX5_lineNow_99 : decode cX5_lineNow 99 = .ok (.iconst 4, 1) := by decide +kernel
theorem dX5_lineNow_100 : decode cX5_lineNow 100 = .ok (.bipush 105, 2) := by decide +kernel
theorem dX5_lineNow_102 : decode cX5_lineNow 102 = .ok (.bipush 111, 2) := by decide +kernel
theorem dX5_lineNow_104 : decode cX5_lineNow 104 = .ok (.bipush 110, 2) := by decide +kernel
theorem dX5_lineNow_106 : decode cX5_lineNow 106 = .ok (.invokevirtual 82, 3) := by decide +kernel
theorem dX5_lineNow_109 : decode cX5_lineNow 109 = .ok (.ifCond .eq 7, 3) := by decide +kernel
theorem dX5_lineNow_112 : decode cX5_lineNow 112 = .ok (.iconst 1, 1) := by decide +kernel
theorem dX5_lineNow_113 : decode cX5_lineNow 113 = .ok (.goto 5, 3) := by decide +kernel
theorem dX5_lineNow_116 : decode cX5_lineNow 116 = .ok (.bipush (-4), 2) := by decide +kernel
theorem dX5_lineNow_118 : decode cX5_lineNow 118 = .ok (.ireturn, 1) := by decide +kernel
theorem dX5_hasRoom_0 : decode cX5_hasRoom 0 = .ok (.iload_n 1, 1) := by decide +kernel
theorem dX5_hasRoom_1 : decode cX5_hasRoom 1 = .ok (.ifCond .ne 22, 3) := by decide +kernel
theorem dX5_hasRoom_4 : decode cX5_hasRoom 4 = .ok (.aload_n 0, 1) := by decide +kernel
theorem dX5_hasRoom_5 : decode cX5_hasRoom 5 = .ok (.getfield 13, 3) := by decide +kernel
theorem dX5_hasRoom_8 : decode cX5_hasRoom 8 = .ok (.iconst 0, 1) := by decide +kernel
theorem dX5_hasRoom_9 : decode cX5_hasRoom 9 = .ok (.iaload, 1) := by decide +kernel
theorem dX5_hasRoom_10 : decode cX5_hasRoom 10 = .ok (.bipush 6, 2) := by decide +kernel
theorem dX5_hasRoom_12 : decode cX5_hasRoom 12 = .ok (.if_icmp .ge 7, 3) := by decide +kernel
theorem dX5_hasRoom_15 : decode cX5_hasRoom 15 = .ok (.iconst 1, 1) := by decide +kernel
theorem dX5_hasRoom_16 : decode cX5_hasRoom 16 = .ok (.goto 44, 3) := by decide +kernel
theorem dX5_hasRoom_19 : decode cX5_hasRoom 19 = .ok (.iconst 0, 1) := by decide +kernel
theorem dX5_hasRoom_20 : decode cX5_hasRoom 20 = .ok (.goto 40, 3) := by decide +kernel
theorem dX5_hasRoom_23 : decode cX5_hasRoom 23 = .ok (.iload_n 1, 1) := by decide +kernel
theorem dX5_hasRoom_24 : decode cX5_hasRoom 24 = .ok (.iconst 2, 1) := by decide +kernel
theorem dX5_hasRoom_25 : decode cX5_hasRoom 25 = .ok (.if_icmp .ne 21, 3) := by decide +kernel
theorem dX5_hasRoom_28 : decode cX5_hasRoom 28 = .ok (.aload_n 0, 1) := by decide +kernel
theorem dX5_hasRoom_29 : decode cX5_hasRoom 29 = .ok (.getfield 13, 3) := by decide +kernel
theorem dX5_hasRoom_32 : decode cX5_hasRoom 32 = .ok (.iconst 1, 1) := by decide +kernel
theorem dX5_hasRoom_33 : decode cX5_hasRoom 33 = .ok (.iaload, 1) := by decide +kernel
theorem dX5_hasRoom_34 : decode cX5_hasRoom 34 = .ok (.iconst 4, 1) := by decide +kernel
theorem dX5_hasRoom_35 : decode cX5_hasRoom 35 = .ok (.if_icmp .ge 7, 3) := by decide +kernel
theorem dX5_hasRoom_38 : decode cX5_hasRoom 38 = .ok (.iconst 1, 1) := by decide +kernel
theorem dX5_hasRoom_39 : decode cX5_hasRoom 39 = .ok (.goto 21, 3) := by decide +kernel
theorem dX5_hasRoom_42 : decode cX5_hasRoom 42 = .ok (.iconst 0, 1) := by decide +kernel
theorem dX5_hasRoom_43 : decode cX5_hasRoom 43 = .ok (.goto 17, 3) := by decide +kernel
theorem dX5_hasRoom_46 : decode cX5_hasRoom 46 = .ok (.aload_n 0, 1) := by decide +kernel
theorem dX5_hasRoom_47 : decode cX5_hasRoom 47 = .ok (.getfield 13, 3) := by decide +kernel
theorem dX5_hasRoom_50 : decode cX5_hasRoom 50 = .ok (.iconst 0, 1) := by decide +kernel
theorem dX5_hasRoom_51 : decode cX5_hasRoom 51 = .ok (.iaload, 1) := by decide +kernel
theorem dX5_hasRoom_52 : decode cX5_hasRoom 52 = .ok (.ifCond .le 7, 3) := by decide +kernel
theorem dX5_hasRoom_55 : decode cX5_hasRoom 55 = .ok (.iconst 1, 1) := by decide +kernel
theorem dX5_hasRoom_56 : decode cX5_hasRoom 56 = .ok (.goto 4, 3) := by decide +kernel
theorem dX5_hasRoom_59 : decode cX5_hasRoom 59 = .ok (.iconst 0, 1) := by decide +kernel
theorem dX5_hasRoom_60 : decode cX5_hasRoom 60 = .ok (.ireturn, 1) := by decide +kernel
theorem dX5_reads_0 : decode cX5_reads 0 = .ok (.aload_n 0, 1) := by decide +kernel
theorem dX5_reads_1 : decode cX5_reads 1 = .ok (.getfield 63, 3) := by decide +kernel
theorem dX5_reads_4 : decode cX5_reads 4 = .ok (.ifCond .le 4, 3) := by decide +kernel
theorem dX5_reads_7 : decode cX5_reads 7 = .ok (.return_, 1) := by decide +kernel
theorem dX5_reads_8 : decode cX5_reads 8 = .ok (.aload_n 0, 1) := by decide +kernel
theorem dX5_reads_9 : decode cX5_reads 9 = .ok (.aload_n 0, 1) := by decide +kernel
theorem dX5_reads_10 : decode cX5_reads 10 = .ok (.getfield 75, 3) := by decide +kernel
theorem dX5_reads_13 : decode cX5_reads 13 = .ok (.invokevirtual 78, 3) := by decide +kernel
theorem dX5_reads_16 : decode cX5_reads 16 = .ok (.bipush 32, 2) := by decide +kernel
theorem dX5_reads_18 : decode cX5_reads 18 = .ok (.if_icmp .ne 16, 3) := by decide +kernel
theorem dX5_reads_21 : decode cX5_reads 21 = .ok (.aload_n 0, 1) := by decide +kernel
theorem dX5_reads_22 : decode cX5_reads 22 = .ok (.dup, 1) := by decide +kernel
theorem dX5_reads_23 : decode cX5_reads 23 = .ok (.getfield 75, 3) := by decide +kernel
theorem dX5_reads_26 : decode cX5_reads 26 = .ok (.iconst 1, 1) := by decide +kernel
theorem dX5_reads_27 : decode cX5_reads 27 = .ok (.iadd, 1) := by decide +kernel
theorem dX5_reads_28 : decode cX5_reads 28 = .ok (.putfield 75, 3) := by decide +kernel
theorem dX5_reads_31 : decode cX5_reads 31 = .ok (.goto (-23), 3) := by decide +kernel
theorem dX5_reads_34 : decode cX5_reads 34 = .ok (.aload_n 0, 1) := by decide +kernel
theorem dX5_reads_35 : decode cX5_reads 35 = .ok (.aload_n 0, 1) := by decide +kernel
theorem dX5_reads_36 : decode cX5_reads 36 = .ok (.getfield 75, 3) := by decide +kernel
theorem dX5_reads_39 : decode cX5_reads 39 = .ok (.putfield 66, 3) := by decide +kernel
theorem dX5_reads_42 : decode cX5_reads 42 = .ok (.aload_n 0, 1) := by decide +kernel
theorem dX5_reads_43 : decode cX5_reads 43 = .ok (.aload_n 0, 1) := by decide +kernel
theorem dX5_reads_44 : decode cX5_reads 44 = .ok (.getfield 75, 3) := by decide +kernel
theorem dX5_reads_47 : decode cX5_reads 47 = .ok (.invokevirtual 78, 3) := by decide +kernel
theorem dX5_reads_50 : decode cX5_reads 50 = .ok (.istore_n 1, 1) := by decide +kernel
theorem dX5_reads_51 : decode cX5_reads 51 = .ok (.iload_n 1, 1) := by decide +kernel
theorem dX5_reads_52 : decode cX5_reads 52 = .ok (.ifCond .ge 11, 3) := by decide +kernel
theorem dX5_reads_55 : decode cX5_reads 55 = .ok (.aload_n 0, 1) := by decide +kernel
theorem dX5_reads_56 : decode cX5_reads 56 = .ok (.iconst 0, 1) := by decide +kernel
theorem dX5_reads_57 : decode cX5_reads 57 = .ok (.putfield 72, 3) := by decide +kernel
theorem dX5_reads_60 : decode cX5_reads 60 = .ok (.goto 214, 3) := by decide +kernel
theorem dX5_reads_63 : decode cX5_reads 63 = .ok (.iload_n 1, 1) := by decide +kernel
theorem dX5_reads_64 : decode cX5_reads 64 = .ok (.i2l, 1) := by decide +kernel
theorem dX5_reads_65 : decode cX5_reads 65 = .ok (.ldc2_w 86, 3) := by decide +kernel
theorem dX5_reads_68 : decode cX5_reads 68 = .ok (.ldc2_w 88, 3) := by decide +kernel
theorem dX5_reads_71 : decode cX5_reads 71 = .ok (.invokestatic 55, 3) := by decide +kernel
theorem dX5_reads_74 : decode cX5_reads 74 = .ok (.ifCond .eq 42, 3) := by decide +kernel
theorem dX5_reads_77 : decode cX5_reads 77 = .ok (.aload_n 0, 1) := by decide +kernel
theorem dX5_reads_78 : decode cX5_reads 78 = .ok (.iconst 1, 1) := by decide +kernel
theorem dX5_reads_79 : decode cX5_reads 79 = .ok (.putfield 72, 3) := by decide +kernel
theorem dX5_reads_82 : decode cX5_reads 82 = .ok (.aload_n 0, 1) := by decide +kernel
theorem dX5_reads_83 : decode cX5_reads 83 = .ok (.aload_n 0, 1) := by decide +kernel
theorem dX5_reads_84 : decode cX5_reads 84 = .ok (.getfield 75, 3) := by decide +kernel
theorem dX5_reads_87 : decode cX5_reads 87 = .ok (.invokevirtual 78, 3) := by decide +kernel
theorem dX5_reads_90 : decode cX5_reads 90 = .ok (.i2l, 1) := by decide +kernel
theorem dX5_reads_91 : decode cX5_reads 91 = .ok (.ldc2_w 86, 3) := by decide +kernel
theorem dX5_reads_94 : decode cX5_reads 94 = .ok (.ldc2_w 88, 3) := by decide +kernel
theorem dX5_reads_97 : decode cX5_reads 97 = .ok (.invokestatic 55, 3) := by decide +kernel
theorem dX5_reads_100 : decode cX5_reads 100 = .ok (.ifCond .eq 174, 3) := by decide +kernel
theorem dX5_reads_103 : decode cX5_reads 103 = .ok (.aload_n 0, 1) := by decide +kernel
theorem dX5_reads_104 : decode cX5_reads 104 = .ok (.dup, 1) := by decide +kernel
theorem dX5_reads_105 : decode cX5_reads 105 = .ok (.getfield 75, 3) := by decide +kernel
theorem dX5_reads_108 : decode cX5_reads 108 = .ok (.iconst 1, 1) := by decide +kernel
theorem dX5_reads_109 : decode cX5_reads 109 = .ok (.iadd, 1) := by decide +kernel
theorem dX5_reads_110 : decode cX5_reads 110 = .ok (.putfield 75, 3) := by decide +kernel
theorem dX5_reads_113 : decode cX5_reads 113 = .ok (.goto (-31), 3) := by decide +kernel
theorem dX5_reads_116 : decode cX5_reads 116 = .ok (.iload_n 1, 1) := by decide +kernel
theorem dX5_reads_117 : decode cX5_reads 117 = .ok (.i2l, 1) := by decide +kernel
theorem dX5_reads_118 : decode cX5_reads 118 = .ok (.ldc2_w 90, 3) := by decide +kernel
theorem dX5_reads_121 : decode cX5_reads 121 = .ok (.ldc2_w 92, 3) := by decide +kernel
theorem dX5_reads_124 : decode cX5_reads 124 = .ok (.invokestatic 55, 3) := by decide +kernel
theorem dX5_reads_127 : decode cX5_reads 127 = .ok (.ifCond .eq 116, 3) := by decide +kernel
theorem dX5_reads_130 : decode cX5_reads 130 = .ok (.aload_n 0, 1) := by decide +kernel
theorem dX5_reads_131 : decode cX5_reads 131 = .ok (.iconst 2, 1) := by decide +kernel
theorem dX5_reads_132 : decode cX5_reads 132 = .ok (.putfield 72, 3) := by decide +kernel
theorem dX5_reads_135 : decode cX5_reads 135 = .ok (.aload_n 0, 1) := by decide +kernel
theorem dX5_reads_136 : decode cX5_reads 136 = .ok (.iconst 0, 1) := by decide +kernel
theorem dX5_reads_137 : decode cX5_reads 137 = .ok (.putfield 94, 3) := by decide +kernel
theorem dX5_reads_140 : decode cX5_reads 140 = .ok (.aload_n 0, 1) := by decide +kernel
theorem dX5_reads_141 : decode cX5_reads 141 = .ok (.aload_n 0, 1) := by decide +kernel
theorem dX5_reads_142 : decode cX5_reads 142 = .ok (.getfield 75, 3) := by decide +kernel
theorem dX5_reads_145 : decode cX5_reads 145 = .ok (.invokevirtual 78, 3) := by decide +kernel
theorem dX5_reads_148 : decode cX5_reads 148 = .ok (.i2l, 1) := by decide +kernel
theorem dX5_reads_149 : decode cX5_reads 149 = .ok (.ldc2_w 90, 3) := by decide +kernel
theorem dX5_reads_152 : decode cX5_reads 152 = .ok (.ldc2_w 92, 3) := by decide +kernel
theorem dX5_reads_155 : decode cX5_reads 155 = .ok (.invokestatic 55, 3) := by decide +kernel
theorem dX5_reads_158 : decode cX5_reads 158 = .ok (.ifCond .eq 59, 3) := by decide +kernel
theorem dX5_reads_161 : decode cX5_reads 161 = .ok (.aload_n 0, 1) := by decide +kernel
theorem dX5_reads_162 : decode cX5_reads 162 = .ok (.aload_n 0, 1) := by decide +kernel
theorem dX5_reads_163 : decode cX5_reads 163 = .ok (.getfield 75, 3) := by decide +kernel
theorem dX5_reads_166 : decode cX5_reads 166 = .ok (.aload_n 0, 1) := by decide +kernel
theorem dX5_reads_167 : decode cX5_reads 167 = .ok (.getfield 66, 3) := by decide +kernel
theorem dX5_reads_170 : decode cX5_reads 170 = .ok (.isub, 1) := by decide +kernel
theorem dX5_reads_171 : decode cX5_reads 171 = .ok (.iconst 2, 1) := by decide +kernel
theorem dX5_reads_172 : decode cX5_reads 172 = .ok (.if_icmp .ge 25, 3) := by decide +kernel
theorem dX5_reads_175 : decode cX5_reads 175 = .ok (.bipush 10, 2) := by decide +kernel
theorem dX5_reads_177 : decode cX5_reads 177 = .ok (.aload_n 0, 1) := by decide +kernel
theorem dX5_reads_178 : decode cX5_reads 178 = .ok (.getfield 94, 3) := by decide +kernel
theorem dX5_reads_181 : decode cX5_reads 181 = .ok (.imul, 1) := by decide +kernel
theorem dX5_reads_182 : decode cX5_reads 182 = .ok (.aload_n 0, 1) := by decide +kernel
theorem dX5_reads_183 : decode cX5_reads 183 = .ok (.aload_n 0, 1) := by decide +kernel
theorem dX5_reads_184 : decode cX5_reads 184 = .ok (.getfield 75, 3) := by decide +kernel
theorem dX5_reads_187 : decode cX5_reads 187 = .ok (.invokevirtual 78, 3) := by decide +kernel
theorem dX5_reads_190 : decode cX5_reads 190 = .ok (.iadd, 1) := by decide +kernel
theorem dX5_reads_191 : decode cX5_reads 191 = .ok (.bipush 48, 2) := by decide +kernel
theorem dX5_reads_193 : decode cX5_reads 193 = .ok (.isub, 1) := by decide +kernel
theorem dX5_reads_194 : decode cX5_reads 194 = .ok (.goto 7, 3) := by decide +kernel
theorem dX5_reads_197 : decode cX5_reads 197 = .ok (.aload_n 0, 1) := by decide +kernel
theorem dX5_reads_198 : decode cX5_reads 198 = .ok (.getfield 94, 3) := by decide +kernel
theorem dX5_reads_201 : decode cX5_reads 201 = .ok (.putfield 94, 3) := by decide +kernel
theorem dX5_reads_204 : decode cX5_reads 204 = .ok (.aload_n 0, 1) := by decide +kernel
theorem dX5_reads_205 : decode cX5_reads 205 = .ok (.dup, 1) := by decide +kernel
theorem dX5_reads_206 : decode cX5_reads 206 = .ok (.getfield 75, 3) := by decide +kernel
theorem dX5_reads_209 : decode cX5_reads 209 = .ok (.iconst 1, 1) := by decide +kernel
theorem dX5_reads_210 : decode cX5_reads 210 = .ok (.iadd, 1) := by decide +kernel
theorem dX5_reads_211 : decode cX5_reads 211 = .ok (.putfield 75, 3) := by decide +kernel
theorem dX5_reads_214 : decode cX5_reads 214 = .ok (.goto (-74), 3) := by decide +kernel
theorem dX5_reads_217 : decode cX5_reads 217 = .ok (.aload_n 0, 1) := by decide +kernel
theorem dX5_reads_218 : decode cX5_reads 218 = .ok (.aload_n 0, 1) := by decide +kernel
theorem dX5_reads_219 : decode cX5_reads 219 = .ok (.getfield 75, 3) := by decide +kernel
theorem dX5_reads_222 : decode cX5_reads 222 = .ok (.aload_n 0, 1) := by decide +kernel
theorem dX5_reads_223 : decode cX5_reads 223 = .ok (.getfield 66, 3) := by decide +kernel
theorem dX5_reads_226 : decode cX5_reads 226 = .ok (.isub, 1) := by decide +kernel
theorem dX5_reads_227 : decode cX5_reads 227 = .ok (.iconst 2, 1) := by decide +kernel
theorem dX5_reads_228 : decode cX5_reads 228 = .ok (.if_icmp .gt 7, 3) := by decide +kernel
theorem dX5_reads_231 : decode cX5_reads 231 = .ok (.iconst 1, 1) := by decide +kernel
theorem dX5_reads_232 : decode cX5_reads 232 = .ok (.goto 4, 3) := by decide +kernel
theorem dX5_reads_235 : decode cX5_reads 235 = .ok (.iconst 0, 1) := by decide +kernel
theorem dX5_reads_236 : decode cX5_reads 236 = .ok (.iconst 1, 1) := by decide +kernel
theorem dX5_reads_237 : decode cX5_reads 237 = .ok (.invokevirtual 97, 3) := by decide +kernel
theorem dX5_reads_240 : decode cX5_reads 240 = .ok (.goto 34, 3) := by decide +kernel
theorem dX5_reads_243 : decode cX5_reads 243 = .ok (.aload_n 0, 1) := by decide +kernel
theorem dX5_reads_244 : decode cX5_reads 244 = .ok (.iconst 3, 1) := by decide +kernel
theorem dX5_reads_245 : decode cX5_reads 245 = .ok (.putfield 72, 3) := by decide +kernel
theorem dX5_reads_248 : decode cX5_reads 248 = .ok (.aload_n 0, 1) := by decide +kernel
theorem dX5_reads_249 : decode cX5_reads 249 = .ok (.iload_n 1, 1) := by decide +kernel
theorem dX5_reads_250 : decode cX5_reads 250 = .ok (.bipush 59, 2) := by decide +kernel
theorem dX5_reads_252 : decode cX5_reads 252 = .ok (.if_icmp .ne 7, 3) := by decide +kernel
theorem dX5_reads_255 : decode cX5_reads 255 = .ok (.iconst 1, 1) := by decide +kernel
theorem dX5_reads_256 : decode cX5_reads 256 = .ok (.goto 4, 3) := by decide +kernel
theorem dX5_reads_259 : decode cX5_reads 259 = .ok (.iconst 0, 1) := by decide +kernel
theorem dX5_reads_260 : decode cX5_reads 260 = .ok (.iconst 1, 1) := by decide +kernel
theorem dX5_reads_261 : decode cX5_reads 261 = .ok (.invokevirtual 97, 3) := by decide +kernel
theorem dX5_reads_264 : decode cX5_reads 264 = .ok (.aload_n 0, 1) := by decide +kernel
theorem dX5_reads_265 : decode cX5_reads 265 = .ok (.dup, 1) := by decide +kernel
theorem dX5_reads_266 : decode cX5_reads 266 = .ok (.getfield 75, 3) := by decide +kernel
theorem dX5_reads_269 : decode cX5_reads 269 = .ok (.iconst 1, 1) := by decide +kernel
theorem dX5_reads_270 : decode cX5_reads 270 = .ok (.iadd, 1) := by decide +kernel
theorem dX5_reads_271 : decode cX5_reads 271 = .ok (.putfield 75, 3) := by decide +kernel
theorem dX5_reads_274 : decode cX5_reads 274 = .ok (.return_, 1) := by decide +kernel
theorem dX5_readNumber_0 : decode cX5_readNumber 0 = .ok (.aload_n 0, 1) := by decide +kernel
theorem dX5_readNumber_1 : decode cX5_readNumber 1 = .ok (.getfield 63, 3) := by decide +kernel
theorem dX5_readNumber_4 : decode cX5_readNumber 4 = .ok (.ifCond .ne 21, 3) := by decide +kernel
theorem dX5_readNumber_7 : decode cX5_readNumber 7 = .ok (.aload_n 0, 1) := by decide +kernel
theorem dX5_readNumber_8 : decode cX5_readNumber 8 = .ok (.aload_n 0, 1) := by decide +kernel
theorem dX5_readNumber_9 : decode cX5_readNumber 9 = .ok (.getfield 72, 3) := by decide +kernel
theorem dX5_readNumber_12 : decode cX5_readNumber 12 = .ok (.iconst 2, 1) := by decide +kernel
theorem dX5_readNumber_13 : decode cX5_readNumber 13 = .ok (.if_icmp .ne 7, 3) := by decide +kernel
theorem dX5_readNumber_16 : decode cX5_readNumber 16 = .ok (.iconst 1, 1) := by decide +kernel
theorem dX5_readNumber_17 : decode cX5_readNumber 17 = .ok (.goto 4, 3) := by decide +kernel
theorem dX5_readNumber_20 : decode cX5_readNumber 20 = .ok (.iconst 0, 1) := by decide +kernel
theorem dX5_readNumber_21 : decode cX5_readNumber 21 = .ok (.iconst 2, 1) := by decide +kernel
theorem dX5_readNumber_22 : decode cX5_readNumber 22 = .ok (.invokevirtual 97, 3) := by decide +kernel
theorem dX5_readNumber_25 : decode cX5_readNumber 25 = .ok (.aload_n 0, 1) := by decide +kernel
theorem dX5_readNumber_26 : decode cX5_readNumber 26 = .ok (.getfield 63, 3) := by decide +kernel
theorem dX5_readNumber_29 : decode cX5_readNumber 29 = .ok (.ifCond .ne 20, 3) := by decide +kernel
theorem dX5_readNumber_32 : decode cX5_readNumber 32 = .ok (.aload_n 0, 1) := by decide +kernel
theorem dX5_readNumber_33 : decode cX5_readNumber 33 = .ok (.aload_n 0, 1) := by decide +kernel
theorem dX5_readNumber_34 : decode cX5_readNumber 34 = .ok (.getfield 94, 3) := by decide +kernel
theorem dX5_readNumber_37 : decode cX5_readNumber 37 = .ok (.i2l, 1) := by decide +kernel
theorem dX5_readNumber_38 : decode cX5_readNumber 38 = .ok (.iload_n 1, 1) := by decide +kernel
theorem dX5_readNumber_39 : decode cX5_readNumber 39 = .ok (.i2l, 1) := by decide +kernel
theorem dX5_readNumber_40 : decode cX5_readNumber 40 = .ok (.iload_n 2, 1) := by decide +kernel
theorem dX5_readNumber_41 : decode cX5_readNumber 41 = .ok (.i2l, 1) := by decide +kernel
theorem dX5_readNumber_42 : decode cX5_readNumber 42 = .ok (.invokestatic 55, 3) := by decide +kernel
theorem dX5_readNumber_45 : decode cX5_readNumber 45 = .ok (.iconst 3, 1) := by decide +kernel
theorem dX5_readNumber_46 : decode cX5_readNumber 46 = .ok (.invokevirtual 97, 3) := by decide +kernel
theorem dX5_readNumber_49 : decode cX5_readNumber 49 = .ok (.aload_n 0, 1) := by decide +kernel
theorem dX5_readNumber_50 : decode cX5_readNumber 50 = .ok (.getfield 63, 3) := by decide +kernel
theorem dX5_readNumber_53 : decode cX5_readNumber 53 = .ok (.ifCond .ne 21, 3) := by decide +kernel
theorem dX5_readNumber_56 : decode cX5_readNumber 56 = .ok (.aload_n 0, 1) := by decide +kernel
theorem dX5_readNumber_57 : decode cX5_readNumber 57 = .ok (.aload_n 0, 1) := by decide +kernel
theorem dX5_readNumber_58 : decode cX5_readNumber 58 = .ok (.getfield 94, 3) := by decide +kernel
theorem dX5_readNumber_61 : decode cX5_readNumber 61 = .ok (.iload_n 3, 1) := by decide +kernel
theorem dX5_readNumber_62 : decode cX5_readNumber 62 = .ok (.if_icmp .eq 7, 3) := by decide +kernel
theorem dX5_readNumber_65 : decode cX5_readNumber 65 = .ok (.iconst 1, 1) := by decide +kernel
theorem dX5_readNumber_66 : decode cX5_readNumber 66 = .ok (.goto 4, 3) := by decide +kernel
theorem dX5_readNumber_69 : decode cX5_readNumber 69 = .ok (.iconst 0, 1) := by decide +kernel
theorem dX5_readNumber_70 : decode cX5_readNumber 70 = .ok (.iconst 4, 1) := by decide +kernel
theorem dX5_readNumber_71 : decode cX5_readNumber 71 = .ok (.invokevirtual 97, 3) := by decide +kernel
theorem dX5_readNumber_74 : decode cX5_readNumber 74 = .ok (.aload_n 0, 1) := by decide +kernel
theorem dX5_readNumber_75 : decode cX5_readNumber 75 = .ok (.getfield 63, 3) := by decide +kernel
theorem dX5_readNumber_78 : decode cX5_readNumber 78 = .ok (.ifCond .ne 10, 3) := by decide +kernel
theorem dX5_readNumber_81 : decode cX5_readNumber 81 = .ok (.aload_n 0, 1) := by decide +kernel
theorem dX5_readNumber_82 : decode cX5_readNumber 82 = .ok (.getfield 94, 3) := by decide +kernel
theorem dX5_readNumber_85 : decode cX5_readNumber 85 = .ok (.goto 4, 3) := by decide +kernel
theorem dX5_readNumber_88 : decode cX5_readNumber 88 = .ok (.iconst 0, 1) := by decide +kernel
theorem dX5_readNumber_89 : decode cX5_readNumber 89 = .ok (.istore 4, 2) := by decide +kernel
theorem dX5_readNumber_91 : decode cX5_readNumber 91 = .ok (.aload_n 0, 1) := by decide +kernel
theorem dX5_readNumber_92 : decode cX5_readNumber 92 = .ok (.invokevirtual 101, 3) := by decide +kernel
theorem dX5_readNumber_95 : decode cX5_readNumber 95 = .ok (.iload 4, 2) := by decide +kernel
theorem dX5_readNumber_97 : decode cX5_readNumber 97 = .ok (.ireturn, 1) := by decide +kernel
theorem dX5_readPlace_0 : decode cX5_readPlace 0 = .ok (.iconst 4, 1) := by decide +kernel
theorem dX5_readPlace_1 : decode cX5_readPlace 1 = .ok (.iconst 5, 1) := by decide +kernel
theorem dX5_readPlace_2 : decode cX5_readPlace 2 = .ok (.aload_n 0, 1) := by decide +kernel
theorem dX5_readPlace_3 : decode cX5_readPlace 3 = .ok (.getfield 13, 3) := by decide +kernel
theorem dX5_readPlace_6 : decode cX5_readPlace 6 = .ok (.iconst 0, 1) := by decide +kernel
theorem dX5_readPlace_7 : decode cX5_readPlace 7 = .ok (.iaload, 1) := by decide +kernel
theorem dX5_readPlace_8 : decode cX5_readPlace 8 = .ok (.imul, 1) := by decide +kernel
theorem dX5_readPlace_9 : decode cX5_readPlace 9 = .ok (.iadd, 1) := by decide +kernel
theorem dX5_readPlace_10 : decode cX5_readPlace 10 = .ok (.istore_n 1, 1) := by decide +kernel
theorem dX5_readPlace_11 : decode cX5_readPlace 11 = .ok (.aload_n 0, 1) := by decide +kernel
theorem dX5_readPlace_12 : decode cX5_readPlace 12 = .ok (.getfield 13, 3) := by decide +kernel
theorem dX5_readPlace_15 : decode cX5_readPlace 15 = .ok (.iload_n 1, 1) := by decide +kernel
theorem dX5_readPlace_16 : decode cX5_readPlace 16 = .ok (.iconst 1, 1) := by decide +kernel
theorem dX5_readPlace_17 : decode cX5_readPlace 17 = .ok (.iadd, 1) := by decide +kernel
theorem dX5_readPlace_18 : decode cX5_readPlace 18 = .ok (.aload_n 0, 1) := by decide +kernel
theorem dX5_readPlace_19 : decode cX5_readPlace 19 = .ok (.iconst 1, 1) := by decide +kernel
theorem dX5_readPlace_20 : decode cX5_readPlace 20 = .ok (.bipush 20, 2) := by decide +kernel
theorem dX5_readPlace_22 : decode cX5_readPlace 22 = .ok (.bipush (-4), 2) := by decide +kernel
theorem dX5_readPlace_24 : decode cX5_readPlace 24 = .ok (.invokevirtual 104, 3) := by decide +kernel
theorem dX5_readPlace_27 : decode cX5_readPlace 27 = .ok (.iastore, 1) := by decide +kernel
theorem dX5_readPlace_28 : decode cX5_readPlace 28 = .ok (.aload_n 0, 1) := by decide +kernel
theorem dX5_readPlace_29 : decode cX5_readPlace 29 = .ok (.getfield 13, 3) := by decide +kernel
theorem dX5_readPlace_32 : decode cX5_readPlace 32 = .ok (.iload_n 1, 1) := by decide +kernel
theorem dX5_readPlace_33 : decode cX5_readPlace 33 = .ok (.iconst 0, 1) := by decide +kernel
theorem dX5_readPlace_34 : decode cX5_readPlace 34 = .ok (.iadd, 1) := by decide +kernel
theorem dX5_readPlace_35 : decode cX5_readPlace 35 = .ok (.iconst 1, 1) := by decide +kernel
theorem dX5_readPlace_36 : decode cX5_readPlace 36 = .ok (.iastore, 1) := by decide +kernel
theorem dX5_readPlace_37 : decode cX5_readPlace 37 = .ok (.aload_n 0, 1) := by decide +kernel
theorem dX5_readPlace_38 : decode cX5_readPlace 38 = .ok (.getfield 13, 3) := by decide +kernel
theorem dX5_readPlace_41 : decode cX5_readPlace 41 = .ok (.iload_n 1, 1) := by decide +kernel
theorem dX5_readPlace_42 : decode cX5_readPlace 42 = .ok (.iconst 4, 1) := by decide +kernel
theorem dX5_readPlace_43 : decode cX5_readPlace 43 = .ok (.iadd, 1) := by decide +kernel
theorem dX5_readPlace_44 : decode cX5_readPlace 44 = .ok (.iconst 1, 1) := by decide +kernel
theorem dX5_readPlace_45 : decode cX5_readPlace 45 = .ok (.iastore, 1) := by decide +kernel
theorem dX5_readPlace_46 : decode cX5_readPlace 46 = .ok (.aload_n 0, 1) := by decide +kernel
theorem dX5_readPlace_47 : decode cX5_readPlace 47 = .ok (.getfield 63, 3) := by decide +kernel
theorem dX5_readPlace_50 : decode cX5_readPlace 50 = .ok (.ifCond .ne 64, 3) := by decide +kernel
theorem dX5_readPlace_53 : decode cX5_readPlace 53 = .ok (.aload_n 0, 1) := by decide +kernel
theorem dX5_readPlace_54 : decode cX5_readPlace 54 = .ok (.getfield 72, 3) := by decide +kernel
theorem dX5_readPlace_57 : decode cX5_readPlace 57 = .ok (.iconst 2, 1) := by decide +kernel
theorem dX5_readPlace_58 : decode cX5_readPlace 58 = .ok (.if_icmp .ne 56, 3) := by decide +kernel
theorem dX5_readPlace_61 : decode cX5_readPlace 61 = .ok (.aload_n 0, 1) := by decide +kernel
theorem dX5_readPlace_62 : decode cX5_readPlace 62 = .ok (.getfield 13, 3) := by decide +kernel
theorem dX5_readPlace_65 : decode cX5_readPlace 65 = .ok (.iload_n 1, 1) := by decide +kernel
theorem dX5_readPlace_66 : decode cX5_readPlace 66 = .ok (.iconst 0, 1) := by decide +kernel
theorem dX5_readPlace_67 : decode cX5_readPlace 67 = .ok (.iadd, 1) := by decide +kernel
theorem dX5_readPlace_68 : decode cX5_readPlace 68 = .ok (.iaload, 1) := by decide +kernel
theorem dX5_readPlace_69 : decode cX5_readPlace 69 = .ok (.iconst 3, 1) := by decide +kernel
theorem dX5_readPlace_70 : decode cX5_readPlace 70 = .ok (.if_icmp .ge 44, 3) := by decide +kernel
theorem dX5_readPlace_73 : decode cX5_readPlace 73 = .ok (.aload_n 0, 1) := by decide +kernel
theorem dX5_readPlace_74 : decode cX5_readPlace 74 = .ok (.getfield 13, 3) := by decide +kernel
theorem dX5_readPlace_77 : decode cX5_readPlace 77 = .ok (.iload_n 1, 1) := by decide +kernel
theorem dX5_readPlace_78 : decode cX5_readPlace 78 = .ok (.iconst 1, 1) := by decide +kernel
theorem dX5_readPlace_79 : decode cX5_readPlace 79 = .ok (.iadd, 1) := by decide +kernel
theorem dX5_readPlace_80 : decode cX5_readPlace 80 = .ok (.aload_n 0, 1) := by decide +kernel
theorem dX5_readPlace_81 : decode cX5_readPlace 81 = .ok (.getfield 13, 3) := by decide +kernel
theorem dX5_readPlace_84 : decode cX5_readPlace 84 = .ok (.iload_n 1, 1) := by decide +kernel
theorem dX5_readPlace_85 : decode cX5_readPlace 85 = .ok (.iconst 0, 1) := by decide +kernel
theorem dX5_readPlace_86 : decode cX5_readPlace 86 = .ok (.iadd, 1) := by decide +kernel
theorem dX5_readPlace_87 : decode cX5_readPlace 87 = .ok (.iaload, 1) := by decide +kernel
theorem dX5_readPlace_88 : decode cX5_readPlace 88 = .ok (.iadd, 1) := by decide +kernel
theorem dX5_readPlace_89 : decode cX5_readPlace 89 = .ok (.aload_n 0, 1) := by decide +kernel
theorem dX5_readPlace_90 : decode cX5_readPlace 90 = .ok (.iconst 1, 1) := by decide +kernel
theorem dX5_readPlace_91 : decode cX5_readPlace 91 = .ok (.bipush 20, 2) := by decide +kernel
theorem dX5_readPlace_93 : decode cX5_readPlace 93 = .ok (.bipush (-4), 2) := by decide +kernel
theorem dX5_readPlace_95 : decode cX5_readPlace 95 = .ok (.invokevirtual 104, 3) := by decide +kernel
theorem dX5_readPlace_98 : decode cX5_readPlace 98 = .ok (.iastore, 1) := by decide +kernel
theorem dX5_readPlace_99 : decode cX5_readPlace 99 = .ok (.aload_n 0, 1) := by decide +kernel
theorem dX5_readPlace_100 : decode cX5_readPlace 100 = .ok (.getfield 13, 3) := by decide +kernel
theorem dX5_readPlace_103 : decode cX5_readPlace 103 = .ok (.iload_n 1, 1) := by decide +kernel
theorem dX5_readPlace_104 : decode cX5_readPlace 104 = .ok (.iconst 0, 1) := by decide +kernel
theorem dX5_readPlace_105 : decode cX5_readPlace 105 = .ok (.iadd, 1) := by decide +kernel
theorem dX5_readPlace_106 : decode cX5_readPlace 106 = .ok (.dup2, 1) := by decide +kernel
theorem dX5_readPlace_107 : decode cX5_readPlace 107 = .ok (.iaload, 1) := by decide +kernel
theorem dX5_readPlace_108 : decode cX5_readPlace 108 = .ok (.iconst 1, 1) := by decide +kernel
theorem dX5_readPlace_109 : decode cX5_readPlace 109 = .ok (.iadd, 1) := by decide +kernel
theorem dX5_readPlace_110 : decode cX5_readPlace 110 = .ok (.iastore, 1) := by decide +kernel
theorem dX5_readPlace_111 : decode cX5_readPlace 111 = .ok (.goto (-65), 3) := by decide +kernel
theorem dX5_readPlace_114 : decode cX5_readPlace 114 = .ok (.aload_n 0, 1) := by decide +kernel
theorem dX5_readPlace_115 : decode cX5_readPlace 115 = .ok (.getfield 13, 3) := by decide +kernel
theorem dX5_readPlace_118 : decode cX5_readPlace 118 = .ok (.iconst 0, 1) := by decide +kernel
theorem dX5_readPlace_119 : decode cX5_readPlace 119 = .ok (.dup2, 1) := by decide +kernel
theorem dX5_readPlace_120 : decode cX5_readPlace 120 = .ok (.iaload, 1) := by decide +kernel
theorem dX5_readPlace_121 : decode cX5_readPlace 121 = .ok (.iconst 1, 1) := by decide +kernel
theorem dX5_readPlace_122 : decode cX5_readPlace 122 = .ok (.iadd, 1) := by decide +kernel
theorem dX5_readPlace_123 : decode cX5_readPlace 123 = .ok (.iastore, 1) := by decide +kernel
theorem dX5_readPlace_124 : decode cX5_readPlace 124 = .ok (.return_, 1) := by decide +kernel
theorem dX5_readTrain_0 : decode cX5_readTrain 0 = .ok (.bipush 34, 2) := by decide +kernel
theorem dX5_readTrain_2 : decode cX5_readTrain 2 = .ok (.bipush 6, 2) := by decide +kernel
theorem dX5_readTrain_4 : decode cX5_readTrain 4 = .ok (.aload_n 0, 1) := by decide +kernel
theorem dX5_readTrain_5 : decode cX5_readTrain 5 = .ok (.getfield 13, 3) := by decide +kernel
theorem dX5_readTrain_8 : decode cX5_readTrain 8 = .ok (.iconst 1, 1) := by decide +kernel
theorem dX5_readTrain_9 : decode cX5_readTrain 9 = .ok (.iaload, 1) := by decide +kernel
theorem dX5_readTrain_10 : decode cX5_readTrain 10 = .ok (.imul, 1) := by decide +kernel
theorem dX5_readTrain_11 : decode cX5_readTrain 11 = .ok (.iadd, 1) := by decide +kernel
theorem dX5_readTrain_12 : decode cX5_readTrain 12 = .ok (.istore_n 1, 1) := by decide +kernel
theorem dX5_readTrain_13 : decode cX5_readTrain 13 = .ok (.aload_n 0, 1) := by decide +kernel
theorem dX5_readTrain_14 : decode cX5_readTrain 14 = .ok (.getfield 13, 3) := by decide +kernel
theorem dX5_readTrain_17 : decode cX5_readTrain 17 = .ok (.iload_n 1, 1) := by decide +kernel
theorem dX5_readTrain_18 : decode cX5_readTrain 18 = .ok (.iconst 0, 1) := by decide +kernel
theorem dX5_readTrain_19 : decode cX5_readTrain 19 = .ok (.iadd, 1) := by decide +kernel
theorem dX5_readTrain_20 : decode cX5_readTrain 20 = .ok (.aload_n 0, 1) := by decide +kernel
theorem dX5_readTrain_21 : decode cX5_readTrain 21 = .ok (.iconst 0, 1) := by decide +kernel
theorem dX5_readTrain_22 : decode cX5_readTrain 22 = .ok (.iconst 5, 1) := by decide +kernel
theorem dX5_readTrain_23 : decode cX5_readTrain 23 = .ok (.bipush (-4), 2) := by decide +kernel
theorem dX5_readTrain_25 : decode cX5_readTrain 25 = .ok (.invokevirtual 104, 3) := by decide +kernel
theorem dX5_readTrain_28 : decode cX5_readTrain 28 = .ok (.iastore, 1) := by decide +kernel
theorem dX5_readTrain_29 : decode cX5_readTrain 29 = .ok (.aload_n 0, 1) := by decide +kernel
theorem dX5_readTrain_30 : decode cX5_readTrain 30 = .ok (.getfield 13, 3) := by decide +kernel
theorem dX5_readTrain_33 : decode cX5_readTrain 33 = .ok (.iload_n 1, 1) := by decide +kernel
theorem dX5_readTrain_34 : decode cX5_readTrain 34 = .ok (.iconst 1, 1) := by decide +kernel
theorem dX5_readTrain_35 : decode cX5_readTrain 35 = .ok (.iadd, 1) := by decide +kernel
theorem dX5_readTrain_36 : decode cX5_readTrain 36 = .ok (.aload_n 0, 1) := by decide +kernel
theorem dX5_readTrain_37 : decode cX5_readTrain 37 = .ok (.iconst 0, 1) := by decide +kernel
theorem dX5_readTrain_38 : decode cX5_readTrain 38 = .ok (.iconst 5, 1) := by decide +kernel
theorem dX5_readTrain_39 : decode cX5_readTrain 39 = .ok (.aload_n 0, 1) := by decide +kernel
theorem dX5_readTrain_40 : decode cX5_readTrain 40 = .ok (.getfield 13, 3) := by decide +kernel
theorem dX5_readTrain_43 : decode cX5_readTrain 43 = .ok (.iload_n 1, 1) := by decide +kernel
theorem dX5_readTrain_44 : decode cX5_readTrain 44 = .ok (.iconst 0, 1) := by decide +kernel
theorem dX5_readTrain_45 : decode cX5_readTrain 45 = .ok (.iadd, 1) := by decide +kernel
theorem dX5_readTrain_46 : decode cX5_readTrain 46 = .ok (.iaload, 1) := by decide +kernel
theorem dX5_readTrain_47 : decode cX5_readTrain 47 = .ok (.invokevirtual 104, 3) := by decide +kernel
theorem dX5_readTrain_50 : decode cX5_readTrain 50 = .ok (.iastore, 1) := by decide +kernel
theorem dX5_readTrain_51 : decode cX5_readTrain 51 = .ok (.aload_n 0, 1) := by decide +kernel
theorem dX5_readTrain_52 : decode cX5_readTrain 52 = .ok (.getfield 13, 3) := by decide +kernel
theorem dX5_readTrain_55 : decode cX5_readTrain 55 = .ok (.iload_n 1, 1) := by decide +kernel
theorem dX5_readTrain_56 : decode cX5_readTrain 56 = .ok (.iconst 2, 1) := by decide +kernel
theorem dX5_readTrain_57 : decode cX5_readTrain 57 = .ok (.iadd, 1) := by decide +kernel
theorem dX5_readTrain_58 : decode cX5_readTrain 58 = .ok (.aload_n 0, 1) := by decide +kernel
theorem dX5_readTrain_59 : decode cX5_readTrain 59 = .ok (.iconst 1, 1) := by decide +kernel
theorem dX5_readTrain_60 : decode cX5_readTrain 60 = .ok (.bipush 20, 2) := by decide +kernel
theorem dX5_readTrain_62 : decode cX5_readTrain 62 = .ok (.bipush (-4), 2) := by decide +kernel
theorem dX5_readTrain_64 : decode cX5_readTrain 64 = .ok (.invokevirtual 104, 3) := by decide +kernel
theorem dX5_readTrain_67 : decode cX5_readTrain 67 = .ok (.iastore, 1) := by decide +kernel
theorem dX5_readTrain_68 : decode cX5_readTrain 68 = .ok (.aload_n 0, 1) := by decide +kernel
theorem dX5_readTrain_69 : decode cX5_readTrain 69 = .ok (.getfield 13, 3) := by decide +kernel
theorem dX5_readTrain_72 : decode cX5_readTrain 72 = .ok (.iload_n 1, 1) := by decide +kernel
theorem dX5_readTrain_73 : decode cX5_readTrain 73 = .ok (.iconst 3, 1) := by decide +kernel
theorem dX5_readTrain_74 : decode cX5_readTrain 74 = .ok (.iadd, 1) := by decide +kernel
theorem dX5_readTrain_75 : decode cX5_readTrain 75 = .ok (.aload_n 0, 1) := by decide +kernel
theorem dX5_readTrain_76 : decode cX5_readTrain 76 = .ok (.getfield 13, 3) := by decide +kernel
theorem dX5_readTrain_79 : decode cX5_readTrain 79 = .ok (.iload_n 1, 1) := by decide +kernel
theorem dX5_readTrain_80 : decode cX5_readTrain 80 = .ok (.iconst 0, 1) := by decide +kernel
theorem dX5_readTrain_81 : decode cX5_readTrain 81 = .ok (.iadd, 1) := by decide +kernel
theorem dX5_readTrain_82 : decode cX5_readTrain 82 = .ok (.iaload, 1) := by decide +kernel
theorem dX5_readTrain_83 : decode cX5_readTrain 83 = .ok (.iastore, 1) := by decide +kernel
theorem dX5_readTrain_84 : decode cX5_readTrain 84 = .ok (.aload_n 0, 1) := by decide +kernel
theorem dX5_readTrain_85 : decode cX5_readTrain 85 = .ok (.getfield 13, 3) := by decide +kernel
theorem dX5_readTrain_88 : decode cX5_readTrain 88 = .ok (.iload_n 1, 1) := by decide +kernel
theorem dX5_readTrain_89 : decode cX5_readTrain 89 = .ok (.iconst 4, 1) := by decide +kernel
theorem dX5_readTrain_90 : decode cX5_readTrain 90 = .ok (.iadd, 1) := by decide +kernel
theorem dX5_readTrain_91 : decode cX5_readTrain 91 = .ok (.iconst 0, 1) := by decide +kernel
theorem dX5_readTrain_92 : decode cX5_readTrain 92 = .ok (.iastore, 1) := by decide +kernel
theorem dX5_readTrain_93 : decode cX5_readTrain 93 = .ok (.aload_n 0, 1) := by decide +kernel
theorem dX5_readTrain_94 : decode cX5_readTrain 94 = .ok (.getfield 13, 3) := by decide +kernel
theorem dX5_readTrain_97 : decode cX5_readTrain 97 = .ok (.iload_n 1, 1) := by decide +kernel
theorem dX5_readTrain_98 : decode cX5_readTrain 98 = .ok (.iconst 5, 1) := by decide +kernel
theorem dX5_readTrain_99 : decode cX5_readTrain 99 = .ok (.iadd, 1) := by decide +kernel
theorem dX5_readTrain_100 : decode cX5_readTrain 100 = .ok (.bipush (-4), 2) := by decide +kernel
theorem dX5_readTrain_102 : decode cX5_readTrain 102 = .ok (.iastore, 1) := by decide +kernel
theorem dX5_readTrain_103 : decode cX5_readTrain 103 = .ok (.aload_n 0, 1) := by decide +kernel
theorem dX5_readTrain_104 : decode cX5_readTrain 104 = .ok (.getfield 13, 3) := by decide +kernel
theorem dX5_readTrain_107 : decode cX5_readTrain 107 = .ok (.iconst 1, 1) := by decide +kernel
theorem dX5_readTrain_108 : decode cX5_readTrain 108 = .ok (.dup2, 1) := by decide +kernel
theorem dX5_readTrain_109 : decode cX5_readTrain 109 = .ok (.iaload, 1) := by decide +kernel
theorem dX5_readTrain_110 : decode cX5_readTrain 110 = .ok (.iconst 1, 1) := by decide +kernel
theorem dX5_readTrain_111 : decode cX5_readTrain 111 = .ok (.iadd, 1) := by decide +kernel
theorem dX5_readTrain_112 : decode cX5_readTrain 112 = .ok (.iastore, 1) := by decide +kernel
theorem dX5_readTrain_113 : decode cX5_readTrain 113 = .ok (.return_, 1) := by decide +kernel
theorem dX5_readLine_0 : decode cX5_readLine 0 = .ok (.aload_n 0, 1) := by decide +kernel
theorem dX5_readLine_1 : decode cX5_readLine 1 = .ok (.invokevirtual 108, 3) := by decide +kernel
theorem dX5_readLine_4 : decode cX5_readLine 4 = .ok (.istore_n 1, 1) := by decide +kernel
theorem dX5_readLine_5 : decode cX5_readLine 5 = .ok (.aload_n 0, 1) := by decide +kernel
theorem dX5_readLine_6 : decode cX5_readLine 6 = .ok (.iload_n 1, 1) := by decide +kernel
theorem dX5_readLine_7 : decode cX5_readLine 7 = .ok (.bipush (-4), 2) := by decide +kernel
theorem dX5_readLine_9 : decode cX5_readLine 9 = .ok (.if_icmp .eq 7, 3) := by decide +kernel
theorem dX5_readLine_12 : decode cX5_readLine 12 = .ok (.iconst 1, 1) := by decide +kernel
theorem dX5_readLine_13 : decode cX5_readLine 13 = .ok (.goto 4, 3) := by decide +kernel
theorem dX5_readLine_16 : decode cX5_readLine 16 = .ok (.iconst 0, 1) := by decide +kernel
theorem dX5_readLine_17 : decode cX5_readLine 17 = .ok (.iconst 2, 1) := by decide +kernel
theorem dX5_readLine_18 : decode cX5_readLine 18 = .ok (.invokevirtual 97, 3) := by decide +kernel
theorem dX5_readLine_21 : decode cX5_readLine 21 = .ok (.aload_n 0, 1) := by decide +kernel
theorem dX5_readLine_22 : decode cX5_readLine 22 = .ok (.iload_n 1, 1) := by decide +kernel
theorem dX5_readLine_23 : decode cX5_readLine 23 = .ok (.bipush (-4), 2) := by decide +kernel
theorem dX5_readLine_25 : decode cX5_readLine 25 = .ok (.if_icmp .eq 11, 3) := by decide +kernel
theorem dX5_readLine_28 : decode cX5_readLine 28 = .ok (.aload_n 0, 1) := by decide +kernel
theorem dX5_readLine_29 : decode cX5_readLine 29 = .ok (.iload_n 1, 1) := by decide +kernel
theorem dX5_readLine_30 : decode cX5_readLine 30 = .ok (.invokevirtual 112, 3) := by decide +kernel
theorem dX5_readLine_33 : decode cX5_readLine 33 = .ok (.ifCond .eq 7, 3) := by decide +kernel
theorem dX5_readLine_36 : decode cX5_readLine 36 = .ok (.iconst 1, 1) := by decide +kernel
theorem dX5_readLine_37 : decode cX5_readLine 37 = .ok (.goto 4, 3) := by decide +kernel
theorem dX5_readLine_40 : decode cX5_readLine 40 = .ok (.iconst 0, 1) := by decide +kernel
theorem dX5_readLine_41 : decode cX5_readLine 41 = .ok (.iconst 5, 1) := by decide +kernel
theorem dX5_readLine_42 : decode cX5_readLine 42 = .ok (.invokevirtual 97, 3) := by decide +kernel
theorem dX5_readLine_45 : decode cX5_readLine 45 = .ok (.aload_n 0, 1) := by decide +kernel
theorem dX5_readLine_46 : decode cX5_readLine 46 = .ok (.invokevirtual 101, 3) := by decide +kernel
theorem dX5_readLine_49 : decode cX5_readLine 49 = .ok (.aload_n 0, 1) := by decide +kernel
theorem dX5_readLine_50 : decode cX5_readLine 50 = .ok (.getfield 63, 3) := by decide +kernel
theorem dX5_readLine_53 : decode cX5_readLine 53 = .ok (.ifCond .le 4, 3) := by decide +kernel
theorem dX5_readLine_56 : decode cX5_readLine 56 = .ok (.return_, 1) := by decide +kernel
theorem dX5_readLine_57 : decode cX5_readLine 57 = .ok (.iload_n 1, 1) := by decide +kernel
theorem dX5_readLine_58 : decode cX5_readLine 58 = .ok (.ifCond .ne 10, 3) := by decide +kernel
theorem dX5_readLine_61 : decode cX5_readLine 61 = .ok (.aload_n 0, 1) := by decide +kernel
theorem dX5_readLine_62 : decode cX5_readLine 62 = .ok (.invokevirtual 116, 3) := by decide +kernel
theorem dX5_readLine_65 : decode cX5_readLine 65 = .ok (.goto 43, 3) := by decide +kernel
theorem dX5_readLine_68 : decode cX5_readLine 68 = .ok (.iload_n 1, 1) := by decide +kernel
theorem dX5_readLine_69 : decode cX5_readLine 69 = .ok (.iconst 2, 1) := by decide +kernel
theorem dX5_readLine_70 : decode cX5_readLine 70 = .ok (.if_icmp .ne 10, 3) := by decide +kernel
theorem dX5_readLine_73 : decode cX5_readLine 73 = .ok (.aload_n 0, 1) := by decide +kernel
theorem dX5_readLine_74 : decode cX5_readLine 74 = .ok (.invokevirtual 119, 3) := by decide +kernel
theorem dX5_readLine_77 : decode cX5_readLine 77 = .ok (.goto 31, 3) := by decide +kernel
theorem dX5_readLine_80 : decode cX5_readLine 80 = .ok (.aload_n 0, 1) := by decide +kernel
theorem dX5_readLine_81 : decode cX5_readLine 81 = .ok (.getfield 13, 3) := by decide +kernel
theorem dX5_readLine_84 : decode cX5_readLine 84 = .ok (.iconst 4, 1) := by decide +kernel
theorem dX5_readLine_85 : decode cX5_readLine 85 = .ok (.iconst 5, 1) := by decide +kernel
theorem dX5_readLine_86 : decode cX5_readLine 86 = .ok (.aload_n 0, 1) := by decide +kernel
theorem dX5_readLine_87 : decode cX5_readLine 87 = .ok (.getfield 13, 3) := by decide +kernel
theorem dX5_readLine_90 : decode cX5_readLine 90 = .ok (.iconst 0, 1) := by decide +kernel
theorem dX5_readLine_91 : decode cX5_readLine 91 = .ok (.iaload, 1) := by decide +kernel
theorem dX5_readLine_92 : decode cX5_readLine 92 = .ok (.iconst 1, 1) := by decide +kernel
theorem dX5_readLine_93 : decode cX5_readLine 93 = .ok (.isub, 1) := by decide +kernel
theorem dX5_readLine_94 : decode cX5_readLine 94 = .ok (.imul, 1) := by decide +kernel
theorem dX5_readLine_95 : decode cX5_readLine 95 = .ok (.iadd, 1) := by decide +kernel
theorem dX5_readLine_96 : decode cX5_readLine 96 = .ok (.iconst 4, 1) := by decide +kernel
theorem dX5_readLine_97 : decode cX5_readLine 97 = .ok (.iadd, 1) := by decide +kernel
theorem dX5_readLine_98 : decode cX5_readLine 98 = .ok (.aload_n 0, 1) := by decide +kernel
theorem dX5_readLine_99 : decode cX5_readLine 99 = .ok (.iconst 1, 1) := by decide +kernel
theorem dX5_readLine_100 : decode cX5_readLine 100 = .ok (.bipush 9, 2) := by decide +kernel
theorem dX5_readLine_102 : decode cX5_readLine 102 = .ok (.bipush (-4), 2) := by decide +kernel
theorem dX5_readLine_104 : decode cX5_readLine 104 = .ok (.invokevirtual 104, 3) := by decide +kernel
theorem dX5_readLine_107 : decode cX5_readLine 107 = .ok (.iastore, 1) := by decide +kernel
theorem dX5_readLine_108 : decode cX5_readLine 108 = .ok (.aload_n 0, 1) := by decide +kernel
theorem dX5_readLine_109 : decode cX5_readLine 109 = .ok (.getfield 63, 3) := by decide +kernel
theorem dX5_readLine_112 : decode cX5_readLine 112 = .ok (.ifCond .ne 21, 3) := by decide +kernel
theorem dX5_readLine_115 : decode cX5_readLine 115 = .ok (.aload_n 0, 1) := by decide +kernel
theorem dX5_readLine_116 : decode cX5_readLine 116 = .ok (.aload_n 0, 1) := by decide +kernel
theorem dX5_readLine_117 : decode cX5_readLine 117 = .ok (.getfield 72, 3) := by decide +kernel
theorem dX5_readLine_120 : decode cX5_readLine 120 = .ok (.iconst 3, 1) := by decide +kernel
theorem dX5_readLine_121 : decode cX5_readLine 121 = .ok (.if_icmp .ne 7, 3) := by decide +kernel
theorem dX5_readLine_124 : decode cX5_readLine 124 = .ok (.iconst 1, 1) := by decide +kernel
theorem dX5_readLine_125 : decode cX5_readLine 125 = .ok (.goto 4, 3) := by decide +kernel
theorem dX5_readLine_128 : decode cX5_readLine 128 = .ok (.iconst 0, 1) := by decide +kernel
theorem dX5_readLine_129 : decode cX5_readLine 129 = .ok (.iconst 2, 1) := by decide +kernel
theorem dX5_readLine_130 : decode cX5_readLine 130 = .ok (.invokevirtual 97, 3) := by decide +kernel
theorem dX5_readLine_133 : decode cX5_readLine 133 = .ok (.aload_n 0, 1) := by decide +kernel
theorem dX5_readLine_134 : decode cX5_readLine 134 = .ok (.invokevirtual 101, 3) := by decide +kernel
theorem dX5_readLine_137 : decode cX5_readLine 137 = .ok (.return_, 1) := by decide +kernel
theorem dX5_areAllPlaces_0 : decode cX5_areAllPlaces 0 = .ok (.iconst 1, 1) := by decide +kernel
theorem dX5_areAllPlaces_1 : decode cX5_areAllPlaces 1 = .ok (.istore_n 1, 1) := by decide +kernel
theorem dX5_areAllPlaces_2 : decode cX5_areAllPlaces 2 = .ok (.iconst 0, 1) := by decide +kernel
theorem dX5_areAllPlaces_3 : decode cX5_areAllPlaces 3 = .ok (.istore_n 2, 1) := by decide +kernel
theorem dX5_areAllPlaces_4 : decode cX5_areAllPlaces 4 = .ok (.iload_n 2, 1) := by decide +kernel
theorem dX5_areAllPlaces_5 : decode cX5_areAllPlaces 5 = .ok (.aload_n 0, 1) := by decide +kernel
theorem dX5_areAllPlaces_6 : decode cX5_areAllPlaces 6 = .ok (.getfield 7, 3) := by decide +kernel
theorem dX5_areAllPlaces_9 : decode cX5_areAllPlaces 9 = .ok (.iconst 1, 1) := by decide +kernel
theorem dX5_areAllPlaces_10 : decode cX5_areAllPlaces 10 = .ok (.iaload, 1) := by decide +kernel
theorem dX5_areAllPlaces_11 : decode cX5_areAllPlaces 11 = .ok (.if_icmp .ge 49, 3) := by decide +kernel
theorem dX5_areAllPlaces_14 : decode cX5_areAllPlaces 14 = .ok (.iload_n 1, 1) := by decide +kernel
theorem dX5_areAllPlaces_15 : decode cX5_areAllPlaces 15 = .ok (.ifCond .eq 37, 3) := by decide +kernel
theorem dX5_areAllPlaces_18 : decode cX5_areAllPlaces 18 = .ok (.aload_n 0, 1) := by decide +kernel
theorem dX5_areAllPlaces_19 : decode cX5_areAllPlaces 19 = .ok (.iload_n 2, 1) := by decide +kernel
theorem dX5_areAllPlaces_20 : decode cX5_areAllPlaces 20 = .ok (.iconst 0, 1) := by decide +kernel
theorem dX5_areAllPlaces_21 : decode cX5_areAllPlaces 21 = .ok (.invokevirtual 122, 3) := by decide +kernel
theorem dX5_areAllPlaces_24 : decode cX5_areAllPlaces 24 = .ok (.aload_n 0, 1) := by decide +kernel
theorem dX5_areAllPlaces_25 : decode cX5_areAllPlaces 25 = .ok (.getfield 7, 3) := by decide +kernel
theorem dX5_areAllPlaces_28 : decode cX5_areAllPlaces 28 = .ok (.iconst 0, 1) := by decide +kernel
theorem dX5_areAllPlaces_29 : decode cX5_areAllPlaces 29 = .ok (.iaload, 1) := by decide +kernel
theorem dX5_areAllPlaces_30 : decode cX5_areAllPlaces 30 = .ok (.if_icmp .ge 22, 3) := by decide +kernel
theorem dX5_areAllPlaces_33 : decode cX5_areAllPlaces 33 = .ok (.aload_n 0, 1) := by decide +kernel
theorem dX5_areAllPlaces_34 : decode cX5_areAllPlaces 34 = .ok (.iload_n 2, 1) := by decide +kernel
theorem dX5_areAllPlaces_35 : decode cX5_areAllPlaces 35 = .ok (.iconst 1, 1) := by decide +kernel
theorem dX5_areAllPlaces_36 : decode cX5_areAllPlaces 36 = .ok (.invokevirtual 122, 3) := by decide +kernel
theorem dX5_areAllPlaces_39 : decode cX5_areAllPlaces 39 = .ok (.aload_n 0, 1) := by decide +kernel
theorem dX5_areAllPlaces_40 : decode cX5_areAllPlaces 40 = .ok (.getfield 7, 3) := by decide +kernel
theorem dX5_areAllPlaces_43 : decode cX5_areAllPlaces 43 = .ok (.iconst 0, 1) := by decide +kernel
theorem dX5_areAllPlaces_44 : decode cX5_areAllPlaces 44 = .ok (.iaload, 1) := by decide +kernel
theorem dX5_areAllPlaces_45 : decode cX5_areAllPlaces 45 = .ok (.if_icmp .ge 7, 3) := by decide +kernel
theorem dX5_areAllPlaces_48 : decode cX5_areAllPlaces 48 = .ok (.iconst 1, 1) := by decide +kernel
theorem dX5_areAllPlaces_49 : decode cX5_areAllPlaces 49 = .ok (.goto 4, 3) := by decide +kernel
theorem dX5_areAllPlaces_52 : decode cX5_areAllPlaces 52 = .ok (.iconst 0, 1) := by decide +kernel
theorem dX5_areAllPlaces_53 : decode cX5_areAllPlaces 53 = .ok (.istore_n 1, 1) := by decide +kernel
theorem dX5_areAllPlaces_54 : decode cX5_areAllPlaces 54 = .ok (.iinc 2 1, 3) := by decide +kernel
theorem dX5_areAllPlaces_57 : decode cX5_areAllPlaces 57 = .ok (.goto (-53), 3) := by decide +kernel
theorem dX5_areAllPlaces_60 : decode cX5_areAllPlaces 60 = .ok (.iload_n 1, 1) := by decide +kernel
theorem dX5_areAllPlaces_61 : decode cX5_areAllPlaces 61 = .ok (.ireturn, 1) := by decide +kernel
theorem dX5_isHeldAll_0 : decode cX5_isHeldAll 0 = .ok (.aload_n 0, 1) := by decide +kernel
theorem dX5_isHeldAll_1 : decode cX5_isHeldAll 1 = .ok (.aload_n 0, 1) := by decide +kernel
theorem dX5_isHeldAll_2 : decode cX5_isHeldAll 2 = .ok (.invokevirtual 126, 3) := by decide +kernel
theorem dX5_isHeldAll_5 : decode cX5_isHeldAll 5 = .ok (.invokevirtual 129, 3) := by decide +kernel
theorem dX5_isHeldAll_8 : decode cX5_isHeldAll 8 = .ok (.iconst 1, 1) := by decide +kernel
theorem dX5_isHeldAll_9 : decode cX5_isHeldAll 9 = .ok (.istore_n 1, 1) := by decide +kernel
theorem dX5_isHeldAll_10 : decode cX5_isHeldAll 10 = .ok (.iconst 0, 1) := by decide +kernel
theorem dX5_isHeldAll_11 : decode cX5_isHeldAll 11 = .ok (.istore_n 2, 1) := by decide +kernel
theorem dX5_isHeldAll_12 : decode cX5_isHeldAll 12 = .ok (.iload_n 2, 1) := by decide +kernel
theorem dX5_isHeldAll_13 : decode cX5_isHeldAll 13 = .ok (.aload_n 0, 1) := by decide +kernel
theorem dX5_isHeldAll_14 : decode cX5_isHeldAll 14 = .ok (.getfield 7, 3) := by decide +kernel
theorem dX5_isHeldAll_17 : decode cX5_isHeldAll 17 = .ok (.iconst 0, 1) := by decide +kernel
theorem dX5_isHeldAll_18 : decode cX5_isHeldAll 18 = .ok (.iaload, 1) := by decide +kernel
theorem dX5_isHeldAll_19 : decode cX5_isHeldAll 19 = .ok (.if_icmp .ge 27, 3) := by decide +kernel
theorem dX5_isHeldAll_22 : decode cX5_isHeldAll 22 = .ok (.iload_n 1, 1) := by decide +kernel
theorem dX5_isHeldAll_23 : decode cX5_isHeldAll 23 = .ok (.ifCond .eq 15, 3) := by decide +kernel
theorem dX5_isHeldAll_26 : decode cX5_isHeldAll 26 = .ok (.aload_n 0, 1) := by decide +kernel
theorem dX5_isHeldAll_27 : decode cX5_isHeldAll 27 = .ok (.iload_n 2, 1) := by decide +kernel
theorem dX5_isHeldAll_28 : decode cX5_isHeldAll 28 = .ok (.invokevirtual 133, 3) := by decide +kernel
theorem dX5_isHeldAll_31 : decode cX5_isHeldAll 31 = .ok (.ifCond .eq 7, 3) := by decide +kernel
theorem dX5_isHeldAll_34 : decode cX5_isHeldAll 34 = .ok (.iconst 1, 1) := by decide +kernel
theorem dX5_isHeldAll_35 : decode cX5_isHeldAll 35 = .ok (.goto 4, 3) := by decide +kernel
theorem dX5_isHeldAll_38 : decode cX5_isHeldAll 38 = .ok (.iconst 0, 1) := by decide +kernel
theorem dX5_isHeldAll_39 : decode cX5_isHeldAll 39 = .ok (.istore_n 1, 1) := by decide +kernel
theorem dX5_isHeldAll_40 : decode cX5_isHeldAll 40 = .ok (.iinc 2 1, 3) := by decide +kernel
theorem dX5_isHeldAll_43 : decode cX5_isHeldAll 43 = .ok (.goto (-31), 3) := by decide +kernel
theorem dX5_isHeldAll_46 : decode cX5_isHeldAll 46 = .ok (.iload_n 1, 1) := by decide +kernel
theorem dX5_isHeldAll_47 : decode cX5_isHeldAll 47 = .ok (.ireturn, 1) := by decide +kernel
theorem dX5_isSafeNow_0 : decode cX5_isSafeNow 0 = .ok (.aload_n 0, 1) := by decide +kernel
theorem dX5_isSafeNow_1 : decode cX5_isSafeNow 1 = .ok (.aload_n 0, 1) := by decide +kernel
theorem dX5_isSafeNow_2 : decode cX5_isSafeNow 2 = .ok (.invokevirtual 126, 3) := by decide +kernel
theorem dX5_isSafeNow_5 : decode cX5_isSafeNow 5 = .ok (.invokevirtual 136, 3) := by decide +kernel
theorem dX5_isSafeNow_8 : decode cX5_isSafeNow 8 = .ok (.aload_n 0, 1) := by decide +kernel
theorem dX5_isSafeNow_9 : decode cX5_isSafeNow 9 = .ok (.getfield 38, 3) := by decide +kernel
theorem dX5_isSafeNow_12 : decode cX5_isSafeNow 12 = .ok (.aload_n 0, 1) := by decide +kernel
theorem dX5_isSafeNow_13 : decode cX5_isSafeNow 13 = .ok (.invokevirtual 126, 3) := by decide +kernel
theorem dX5_isSafeNow_16 : decode cX5_isSafeNow 16 = .ok (.baload, 1) := by decide +kernel
theorem dX5_isSafeNow_17 : decode cX5_isSafeNow 17 = .ok (.ireturn, 1) := by decide +kernel
theorem dX5_text_0 : decode cX5_text 0 = .ok (.iconst 0, 1) := by decide +kernel
theorem dX5_text_1 : decode cX5_text 1 = .ok (.istore_n 1, 1) := by decide +kernel
theorem dX5_text_2 : decode cX5_text 2 = .ok (.aload_n 0, 1) := by decide +kernel
theorem dX5_text_3 : decode cX5_text 3 = .ok (.iconst 0, 1) := by decide +kernel
theorem dX5_text_4 : decode cX5_text 4 = .ok (.putfield 63, 3) := by decide +kernel
theorem dX5_text_7 : decode cX5_text 7 = .ok (.aload_n 0, 1) := by decide +kernel
theorem dX5_text_8 : decode cX5_text 8 = .ok (.iconst 0, 1) := by decide +kernel
theorem dX5_text_9 : decode cX5_text 9 = .ok (.putfield 75, 3) := by decide +kernel
theorem dX5_text_12 : decode cX5_text 12 = .ok (.iconst 0, 1) := by decide +kernel
theorem dX5_text_13 : decode cX5_text 13 = .ok (.istore_n 2, 1) := by decide +kernel
theorem dX5_text_14 : decode cX5_text 14 = .ok (.iload_n 2, 1) := by decide +kernel
theorem dX5_text_15 : decode cX5_text 15 = .ok (.sipush 238, 3) := by decide +kernel
theorem dX5_text_18 : decode cX5_text 18 = .ok (.if_icmp .ge 16, 3) := by decide +kernel
theorem dX5_text_21 : decode cX5_text 21 = .ok (.aload_n 0, 1) := by decide +kernel
theorem dX5_text_22 : decode cX5_text 22 = .ok (.getfield 13, 3) := by decide +kernel
theorem dX5_text_25 : decode cX5_text 25 = .ok (.iload_n 2, 1) := by decide +kernel
theorem dX5_text_26 : decode cX5_text 26 = .ok (.iconst 0, 1) := by decide +kernel
theorem dX5_text_27 : decode cX5_text 27 = .ok (.iastore, 1) := by decide +kernel
theorem dX5_text_28 : decode cX5_text 28 = .ok (.iinc 2 1, 3) := by decide +kernel
theorem dX5_text_31 : decode cX5_text 31 = .ok (.goto (-17), 3) := by decide +kernel
theorem dX5_text_34 : decode cX5_text 34 = .ok (.aload_n 0, 1) := by decide +kernel
theorem dX5_text_35 : decode cX5_text 35 = .ok (.invokevirtual 101, 3) := by decide +kernel
theorem dX5_text_38 : decode cX5_text 38 = .ok (.aload_n 0, 1) := by decide +kernel
theorem dX5_text_39 : decode cX5_text 39 = .ok (.getfield 63, 3) := by decide +kernel
theorem dX5_text_42 : decode cX5_text 42 = .ok (.ifCond .ne 20, 3) := by decide +kernel
theorem dX5_text_45 : decode cX5_text 45 = .ok (.aload_n 0, 1) := by decide +kernel
theorem dX5_text_46 : decode cX5_text 46 = .ok (.getfield 72, 3) := by decide +kernel
theorem dX5_text_49 : decode cX5_text 49 = .ok (.ifCond .eq 13, 3) := by decide +kernel
theorem dX5_text_52 : decode cX5_text 52 = .ok (.aload_n 0, 1) := by decide +kernel
theorem dX5_text_53 : decode cX5_text 53 = .ok (.invokevirtual 139, 3) := by decide +kernel
theorem dX5_text_56 : decode cX5_text 56 = .ok (.iinc 1 1, 3) := by decide +kernel
theorem dX5_text_59 : decode cX5_text 59 = .ok (.goto (-21), 3) := by decide +kernel
theorem dX5_text_62 : decode cX5_text 62 = .ok (.aload_n 0, 1) := by decide +kernel
theorem dX5_text_63 : decode cX5_text 63 = .ok (.getfield 63, 3) := by decide +kernel
theorem dX5_text_66 : decode cX5_text 66 = .ok (.ifCond .ne 105, 3) := by decide +kernel
theorem dX5_text_69 : decode cX5_text 69 = .ok (.aload_n 0, 1) := by decide +kernel
theorem dX5_text_70 : decode cX5_text 70 = .ok (.invokevirtual 142, 3) := by decide +kernel
theorem dX5_text_73 : decode cX5_text 73 = .ok (.iconst 0, 1) := by decide +kernel
theorem dX5_text_74 : decode cX5_text 74 = .ok (.istore_n 2, 1) := by decide +kernel
theorem dX5_text_75 : decode cX5_text 75 = .ok (.iload_n 2, 1) := by decide +kernel
theorem dX5_text_76 : decode cX5_text 76 = .ok (.sipush 238, 3) := by decide +kernel
theorem dX5_text_79 : decode cX5_text 79 = .ok (.if_icmp .ge 21, 3) := by decide +kernel
theorem dX5_text_82 : decode cX5_text 82 = .ok (.aload_n 0, 1) := by decide +kernel
theorem dX5_text_83 : decode cX5_text 83 = .ok (.getfield 7, 3) := by decide +kernel
theorem dX5_text_86 : decode cX5_text 86 = .ok (.iload_n 2, 1) := by decide +kernel
theorem dX5_text_87 : decode cX5_text 87 = .ok (.aload_n 0, 1) := by decide +kernel
theorem dX5_text_88 : decode cX5_text 88 = .ok (.getfield 13, 3) := by decide +kernel
theorem dX5_text_91 : decode cX5_text 91 = .ok (.iload_n 2, 1) := by decide +kernel
theorem dX5_text_92 : decode cX5_text 92 = .ok (.iaload, 1) := by decide +kernel
theorem dX5_text_93 : decode cX5_text 93 = .ok (.iastore, 1) := by decide +kernel
theorem dX5_text_94 : decode cX5_text 94 = .ok (.iinc 2 1, 3) := by decide +kernel
theorem dX5_text_97 : decode cX5_text 97 = .ok (.goto (-22), 3) := by decide +kernel
theorem dX5_text_100 : decode cX5_text 100 = .ok (.aload_n 0, 1) := by decide +kernel
theorem dX5_text_101 : decode cX5_text 101 = .ok (.aload_n 0, 1) := by decide +kernel
theorem dX5_text_102 : decode cX5_text 102 = .ok (.invokevirtual 145, 3) := by decide +kernel
theorem dX5_text_105 : decode cX5_text 105 = .ok (.bipush 6, 2) := by decide +kernel
theorem dX5_text_107 : decode cX5_text 107 = .ok (.invokevirtual 97, 3) := by decide +kernel
theorem dX5_text_110 : decode cX5_text 110 = .ok (.aload_n 0, 1) := by decide +kernel
theorem dX5_text_111 : decode cX5_text 111 = .ok (.aload_n 0, 1) := by decide +kernel
theorem dX5_text_112 : decode cX5_text 112 = .ok (.getfield 63, 3) := by decide +kernel
theorem dX5_text_115 : decode cX5_text 115 = .ok (.ifCond .gt 10, 3) := by decide +kernel
theorem dX5_text_118 : decode cX5_text 118 = .ok (.aload_n 0, 1) := by decide +kernel
theorem dX5_text_119 : decode cX5_text 119 = .ok (.invokevirtual 149, 3) := by decide +kernel
theorem dX5_text_122 : decode cX5_text 122 = .ok (.ifCond .eq 7, 3) := by decide +kernel
theorem dX5_text_125 : decode cX5_text 125 = .ok (.iconst 1, 1) := by decide +kernel
theorem dX5_text_126 : decode cX5_text 126 = .ok (.goto 4, 3) := by decide +kernel
theorem dX5_text_129 : decode cX5_text 129 = .ok (.iconst 0, 1) := by decide +kernel
theorem dX5_text_130 : decode cX5_text 130 = .ok (.bipush 7, 2) := by decide +kernel
theorem dX5_text_132 : decode cX5_text 132 = .ok (.invokevirtual 97, 3) := by decide +kernel
theorem dX5_text_135 : decode cX5_text 135 = .ok (.aload_n 0, 1) := by decide +kernel
theorem dX5_text_136 : decode cX5_text 136 = .ok (.aload_n 0, 1) := by decide +kernel
theorem dX5_text_137 : decode cX5_text 137 = .ok (.getfield 63, 3) := by decide +kernel
theorem dX5_text_140 : decode cX5_text 140 = .ok (.ifCond .gt 10, 3) := by decide +kernel
theorem dX5_text_143 : decode cX5_text 143 = .ok (.aload_n 0, 1) := by decide +kernel
theorem dX5_text_144 : decode cX5_text 144 = .ok (.invokevirtual 152, 3) := by decide +kernel
theorem dX5_text_147 : decode cX5_text 147 = .ok (.ifCond .eq 7, 3) := by decide +kernel
theorem dX5_text_150 : decode cX5_text 150 = .ok (.iconst 1, 1) := by decide +kernel
theorem dX5_text_151 : decode cX5_text 151 = .ok (.goto 4, 3) := by decide +kernel
theorem dX5_text_154 : decode cX5_text 154 = .ok (.iconst 0, 1) := by decide +kernel
theorem dX5_text_155 : decode cX5_text 155 = .ok (.bipush 8, 2) := by decide +kernel
theorem dX5_text_157 : decode cX5_text 157 = .ok (.invokevirtual 97, 3) := by decide +kernel
theorem dX5_text_160 : decode cX5_text 160 = .ok (.aload_n 0, 1) := by decide +kernel
theorem dX5_text_161 : decode cX5_text 161 = .ok (.getfield 63, 3) := by decide +kernel
theorem dX5_text_164 : decode cX5_text 164 = .ok (.ifCond .le 7, 3) := by decide +kernel
theorem dX5_text_167 : decode cX5_text 167 = .ok (.aload_n 0, 1) := by decide +kernel
theorem dX5_text_168 : decode cX5_text 168 = .ok (.invokevirtual 155, 3) := by decide +kernel
theorem dX5_text_171 : decode cX5_text 171 = .ok (.aload_n 0, 1) := by decide +kernel
theorem dX5_text_172 : decode cX5_text 172 = .ok (.iconst 0, 1) := by decide +kernel
theorem dX5_text_173 : decode cX5_text 173 = .ok (.putfield 59, 3) := by decide +kernel
theorem dX5_text_176 : decode cX5_text 176 = .ok (.aload_n 0, 1) := by decide +kernel
theorem dX5_text_177 : decode cX5_text 177 = .ok (.getfield 63, 3) := by decide +kernel
theorem dX5_text_180 : decode cX5_text 180 = .ok (.ifCond .le 11, 3) := by decide +kernel
theorem dX5_text_183 : decode cX5_text 183 = .ok (.bipush (-10), 2) := by decide +kernel
theorem dX5_text_185 : decode cX5_text 185 = .ok (.aload_n 0, 1) := by decide +kernel
theorem dX5_text_186 : decode cX5_text 186 = .ok (.getfield 69, 3) := by decide +kernel
theorem dX5_text_189 : decode cX5_text 189 = .ok (.isub, 1) := by decide +kernel
theorem dX5_text_190 : decode cX5_text 190 = .ok (.ireturn, 1) := by decide +kernel
theorem dX5_text_191 : decode cX5_text 191 = .ok (.aload_n 0, 1) := by decide +kernel
theorem dX5_text_192 : decode cX5_text 192 = .ok (.getfield 22, 3) := by decide +kernel
theorem dX5_text_195 : decode cX5_text 195 = .ok (.iconst 0, 1) := by decide +kernel
theorem dX5_text_196 : decode cX5_text 196 = .ok (.iconst 0, 1) := by decide +kernel
theorem dX5_text_197 : decode cX5_text 197 = .ok (.bastore, 1) := by decide +kernel
theorem dX5_text_198 : decode cX5_text 198 = .ok (.aload_n 0, 1) := by decide +kernel
theorem dX5_text_199 : decode cX5_text 199 = .ok (.getfield 22, 3) := by decide +kernel
theorem dX5_text_202 : decode cX5_text 202 = .ok (.iconst 1, 1) := by decide +kernel
theorem dX5_text_203 : decode cX5_text 203 = .ok (.iconst 0, 1) := by decide +kernel
theorem dX5_text_204 : decode cX5_text 204 = .ok (.bastore, 1) := by decide +kernel
theorem dX5_text_205 : decode cX5_text 205 = .ok (.iload_n 1, 1) := by decide +kernel
theorem dX5_text_206 : decode cX5_text 206 = .ok (.ireturn, 1) := by decide +kernel
theorem dX5_fault_0 : decode cX5_fault 0 = .ok (.aload_n 0, 1) := by decide +kernel
theorem dX5_fault_1 : decode cX5_fault 1 = .ok (.getfield 63, 3) := by decide +kernel
theorem dX5_fault_4 : decode cX5_fault 4 = .ok (.ireturn, 1) := by decide +kernel
theorem dX5_isPlace_0 : decode cX5_isPlace 0 = .ok (.iload_n 1, 1) := by decide +kernel
theorem dX5_isPlace_1 : decode cX5_isPlace 1 = .ok (.i2l, 1) := by decide +kernel
theorem dX5_isPlace_2 : decode cX5_isPlace 2 = .ok (.lconst 0, 1) := by decide +kernel
theorem dX5_isPlace_3 : decode cX5_isPlace 3 = .ok (.aload_n 0, 1) := by decide +kernel
theorem dX5_isPlace_4 : decode cX5_isPlace 4 = .ok (.getfield 7, 3) := by decide +kernel
theorem dX5_isPlace_7 : decode cX5_isPlace 7 = .ok (.iconst 0, 1) := by decide +kernel
theorem dX5_isPlace_8 : decode cX5_isPlace 8 = .ok (.iaload, 1) := by decide +kernel
theorem dX5_isPlace_9 : decode cX5_isPlace 9 = .ok (.iconst 1, 1) := by decide +kernel
theorem dX5_isPlace_10 : decode cX5_isPlace 10 = .ok (.isub, 1) := by decide +kernel
theorem dX5_isPlace_11 : decode cX5_isPlace 11 = .ok (.i2l, 1) := by decide +kernel
theorem dX5_isPlace_12 : decode cX5_isPlace 12 = .ok (.invokestatic 55, 3) := by decide +kernel
theorem dX5_isPlace_15 : decode cX5_isPlace 15 = .ok (.ireturn, 1) := by decide +kernel
theorem dX5_isTrain_0 : decode cX5_isTrain 0 = .ok (.iload_n 1, 1) := by decide +kernel
theorem dX5_isTrain_1 : decode cX5_isTrain 1 = .ok (.i2l, 1) := by decide +kernel
theorem dX5_isTrain_2 : decode cX5_isTrain 2 = .ok (.lconst 0, 1) := by decide +kernel
theorem dX5_isTrain_3 : decode cX5_isTrain 3 = .ok (.aload_n 0, 1) := by decide +kernel
theorem dX5_isTrain_4 : decode cX5_isTrain 4 = .ok (.getfield 7, 3) := by decide +kernel
theorem dX5_isTrain_7 : decode cX5_isTrain 7 = .ok (.iconst 1, 1) := by decide +kernel
theorem dX5_isTrain_8 : decode cX5_isTrain 8 = .ok (.iaload, 1) := by decide +kernel
theorem dX5_isTrain_9 : decode cX5_isTrain 9 = .ok (.iconst 1, 1) := by decide +kernel
theorem dX5_isTrain_10 : decode cX5_isTrain 10 = .ok (.isub, 1) := by decide +kernel
theorem dX5_isTrain_11 : decode cX5_isTrain 11 = .ok (.i2l, 1) := by decide +kernel
theorem dX5_isTrain_12 : decode cX5_isTrain 12 = .ok (.invokestatic 55, 3) := by decide +kernel
theorem dX5_isTrain_15 : decode cX5_isTrain 15 = .ok (.ireturn, 1) := by decide +kernel
theorem dX5_ofTrain_0 : decode cX5_ofTrain 0 = .ok (.aload_n 0, 1) := by decide +kernel
theorem dX5_ofTrain_1 : decode cX5_ofTrain 1 = .ok (.getfield 7, 3) := by decide +kernel
theorem dX5_ofTrain_4 : decode cX5_ofTrain 4 = .ok (.bipush 34, 2) := by decide +kernel
theorem dX5_ofTrain_6 : decode cX5_ofTrain 6 = .ok (.bipush 6, 2) := by decide +kernel
theorem dX5_ofTrain_8 : decode cX5_ofTrain 8 = .ok (.iload_n 1, 1) := by decide +kernel
theorem dX5_ofTrain_9 : decode cX5_ofTrain 9 = .ok (.imul, 1) := by decide +kernel
theorem dX5_ofTrain_10 : decode cX5_ofTrain 10 = .ok (.iadd, 1) := by decide +kernel
theorem dX5_ofTrain_11 : decode cX5_ofTrain 11 = .ok (.iload_n 2, 1) := by decide +kernel
theorem dX5_ofTrain_12 : decode cX5_ofTrain 12 = .ok (.iadd, 1) := by decide +kernel
theorem dX5_ofTrain_13 : decode cX5_ofTrain 13 = .ok (.iaload, 1) := by decide +kernel
theorem dX5_ofTrain_14 : decode cX5_ofTrain 14 = .ok (.ireturn, 1) := by decide +kernel
theorem dX5_ofPlace_0 : decode cX5_ofPlace 0 = .ok (.aload_n 0, 1) := by decide +kernel
theorem dX5_ofPlace_1 : decode cX5_ofPlace 1 = .ok (.getfield 7, 3) := by decide +kernel
theorem dX5_ofPlace_4 : decode cX5_ofPlace 4 = .ok (.iconst 4, 1) := by decide +kernel
theorem dX5_ofPlace_5 : decode cX5_ofPlace 5 = .ok (.iconst 5, 1) := by decide +kernel
theorem dX5_ofPlace_6 : decode cX5_ofPlace 6 = .ok (.iload_n 1, 1) := by decide +kernel
theorem dX5_ofPlace_7 : decode cX5_ofPlace 7 = .ok (.imul, 1) := by decide +kernel
theorem dX5_ofPlace_8 : decode cX5_ofPlace 8 = .ok (.iadd, 1) := by decide +kernel
theorem dX5_ofPlace_9 : decode cX5_ofPlace 9 = .ok (.iload_n 2, 1) := by decide +kernel
theorem dX5_ofPlace_10 : decode cX5_ofPlace 10 = .ok (.iadd, 1) := by decide +kernel
theorem dX5_ofPlace_11 : decode cX5_ofPlace 11 = .ok (.iaload, 1) := by decide +kernel
theorem dX5_ofPlace_12 : decode cX5_ofPlace 12 = .ok (.ireturn, 1) := by decide +kernel
theorem dX5_nextFrom_0 : decode cX5_nextFrom 0 = .ok (.aload_n 0, 1) := by decide +kernel
theorem dX5_nextFrom_1 : decode cX5_nextFrom 1 = .ok (.iload_n 1, 1) := by decide +kernel
theorem dX5_nextFrom_2 : decode cX5_nextFrom 2 = .ok (.iconst 1, 1) := by decide +kernel
theorem dX5_nextFrom_3 : decode cX5_nextFrom 3 = .ok (.invokevirtual 122, 3) := by decide +kernel
theorem dX5_nextFrom_6 : decode cX5_nextFrom 6 = .ok (.aload_n 0, 1) := by decide +kernel
theorem dX5_nextFrom_7 : decode cX5_nextFrom 7 = .ok (.iload_n 1, 1) := by decide +kernel
theorem dX5_nextFrom_8 : decode cX5_nextFrom 8 = .ok (.iconst 0, 1) := by decide +kernel
theorem dX5_nextFrom_9 : decode cX5_nextFrom 9 = .ok (.invokevirtual 122, 3) := by decide +kernel
theorem dX5_nextFrom_12 : decode cX5_nextFrom 12 = .ok (.if_icmp .le 9, 3) := by decide +kernel
theorem dX5_nextFrom_15 : decode cX5_nextFrom 15 = .ok (.iload_n 2, 1) := by decide +kernel
theorem dX5_nextFrom_16 : decode cX5_nextFrom 16 = .ok (.iconst 1, 1) := by decide +kernel
theorem dX5_nextFrom_17 : decode cX5_nextFrom 17 = .ok (.iadd, 1) := by decide +kernel
theorem dX5_nextFrom_18 : decode cX5_nextFrom 18 = .ok (.goto 6, 3) := by decide +kernel
theorem dX5_nextFrom_21 : decode cX5_nextFrom 21 = .ok (.iload_n 2, 1) := by decide +kernel
theorem dX5_nextFrom_22 : decode cX5_nextFrom 22 = .ok (.iconst 1, 1) := by decide +kernel
theorem dX5_nextFrom_23 : decode cX5_nextFrom 23 = .ok (.isub, 1) := by decide +kernel
theorem dX5_nextFrom_24 : decode cX5_nextFrom 24 = .ok (.ireturn, 1) := by decide +kernel
theorem dX5_isDoneIn_0 : decode cX5_isDoneIn 0 = .ok (.aload_n 0, 1) := by decide +kernel
theorem dX5_isDoneIn_1 : decode cX5_isDoneIn 1 = .ok (.iload_n 1, 1) := by decide +kernel
theorem dX5_isDoneIn_2 : decode cX5_isDoneIn 2 = .ok (.iconst 4, 1) := by decide +kernel
theorem dX5_isDoneIn_3 : decode cX5_isDoneIn 3 = .ok (.invokevirtual 122, 3) := by decide +kernel
theorem dX5_isDoneIn_6 : decode cX5_isDoneIn 6 = .ok (.iconst 2, 1) := by decide +kernel
theorem dX5_isDoneIn_7 : decode cX5_isDoneIn 7 = .ok (.if_icmp .eq 28, 3) := by decide +kernel
theorem dX5_isDoneIn_10 : decode cX5_isDoneIn 10 = .ok (.aload_n 0, 1) := by decide +kernel
theorem dX5_isDoneIn_11 : decode cX5_isDoneIn 11 = .ok (.iload_n 1, 1) := by decide +kernel
theorem dX5_isDoneIn_12 : decode cX5_isDoneIn 12 = .ok (.iconst 4, 1) := by decide +kernel
theorem dX5_isDoneIn_13 : decode cX5_isDoneIn 13 = .ok (.invokevirtual 122, 3) := by decide +kernel
theorem dX5_isDoneIn_16 : decode cX5_isDoneIn 16 = .ok (.iconst 1, 1) := by decide +kernel
theorem dX5_isDoneIn_17 : decode cX5_isDoneIn 17 = .ok (.if_icmp .ne 22, 3) := by decide +kernel
theorem dX5_isDoneIn_20 : decode cX5_isDoneIn 20 = .ok (.aload_n 0, 1) := by decide +kernel
theorem dX5_isDoneIn_21 : decode cX5_isDoneIn 21 = .ok (.iload_n 1, 1) := by decide +kernel
theorem dX5_isDoneIn_22 : decode cX5_isDoneIn 22 = .ok (.iconst 3, 1) := by decide +kernel
theorem dX5_isDoneIn_23 : decode cX5_isDoneIn 23 = .ok (.invokevirtual 122, 3) := by decide +kernel
theorem dX5_isDoneIn_26 : decode cX5_isDoneIn 26 = .ok (.aload_n 0, 1) := by decide +kernel
theorem dX5_isDoneIn_27 : decode cX5_isDoneIn 27 = .ok (.iload_n 1, 1) := by decide +kernel
theorem dX5_isDoneIn_28 : decode cX5_isDoneIn 28 = .ok (.iconst 1, 1) := by decide +kernel
theorem dX5_isDoneIn_29 : decode cX5_isDoneIn 29 = .ok (.invokevirtual 122, 3) := by decide +kernel
theorem dX5_isDoneIn_32 : decode cX5_isDoneIn 32 = .ok (.if_icmp .ne 7, 3) := by decide +kernel
theorem dX5_isDoneIn_35 : decode cX5_isDoneIn 35 = .ok (.iconst 1, 1) := by decide +kernel
theorem dX5_isDoneIn_36 : decode cX5_isDoneIn 36 = .ok (.goto 4, 3) := by decide +kernel
theorem dX5_isDoneIn_39 : decode cX5_isDoneIn 39 = .ok (.iconst 0, 1) := by decide +kernel
theorem dX5_isDoneIn_40 : decode cX5_isDoneIn 40 = .ok (.ireturn, 1) := by decide +kernel
theorem dX5_minutesOf_0 : decode cX5_minutesOf 0 = .ok (.aload_n 0, 1) := by decide +kernel
theorem dX5_minutesOf_1 : decode cX5_minutesOf 1 = .ok (.iload_n 1, 1) := by decide +kernel
theorem dX5_minutesOf_2 : decode cX5_minutesOf 2 = .ok (.iload_n 2, 1) := by decide +kernel
theorem dX5_minutesOf_3 : decode cX5_minutesOf 3 = .ok (.if_icmp .ge 7, 3) := by decide +kernel
theorem dX5_minutesOf_6 : decode cX5_minutesOf 6 = .ok (.iload_n 1, 1) := by decide +kernel
theorem dX5_minutesOf_7 : decode cX5_minutesOf 7 = .ok (.goto 4, 3) := by decide +kernel
theorem dX5_minutesOf_10 : decode cX5_minutesOf 10 = .ok (.iload_n 2, 1) := by decide +kernel
theorem dX5_minutesOf_11 : decode cX5_minutesOf 11 = .ok (.iconst 4, 1) := by decide +kernel
theorem dX5_minutesOf_12 : decode cX5_minutesOf 12 = .ok (.invokevirtual 158, 3) := by decide +kernel
theorem dX5_minutesOf_15 : decode cX5_minutesOf 15 = .ok (.ireturn, 1) := by decide +kernel
theorem dX5_minutesStill_0 : decode cX5_minutesStill 0 = .ok (.iconst 0, 1) := by decide +kernel
theorem dX5_minutesStill_1 : decode cX5_minutesStill 1 = .ok (.istore_n 2, 1) := by decide +kernel
theorem dX5_minutesStill_2 : decode cX5_minutesStill 2 = .ok (.aload_n 0, 1) := by decide +kernel
theorem dX5_minutesStill_3 : decode cX5_minutesStill 3 = .ok (.iload_n 1, 1) := by decide +kernel
theorem dX5_minutesStill_4 : decode cX5_minutesStill 4 = .ok (.iconst 3, 1) := by decide +kernel
theorem dX5_minutesStill_5 : decode cX5_minutesStill 5 = .ok (.invokevirtual 122, 3) := by decide +kernel
theorem dX5_minutesStill_8 : decode cX5_minutesStill 8 = .ok (.istore_n 3, 1) := by decide +kernel
theorem dX5_minutesStill_9 : decode cX5_minutesStill 9 = .ok (.iconst 0, 1) := by decide +kernel
theorem dX5_minutesStill_10 : decode cX5_minutesStill 10 = .ok (.istore 4, 2) := by decide +kernel
theorem dX5_minutesStill_12 : decode cX5_minutesStill 12 = .ok (.iload 4, 2) := by decide +kernel
theorem dX5_minutesStill_14 : decode cX5_minutesStill 14 = .ok (.bipush 6, 2) := by decide +kernel
theorem dX5_minutesStill_16 : decode cX5_minutesStill 16 = .ok (.if_icmp .ge 50, 3) := by decide +kernel
theorem dX5_minutesStill_19 : decode cX5_minutesStill 19 = .ok (.aload_n 0, 1) := by decide +kernel
theorem dX5_minutesStill_20 : decode cX5_minutesStill 20 = .ok (.iload_n 1, 1) := by decide +kernel
theorem dX5_minutesStill_21 : decode cX5_minutesStill 21 = .ok (.iconst 4, 1) := by decide +kernel
theorem dX5_minutesStill_22 : decode cX5_minutesStill 22 = .ok (.invokevirtual 122, 3) := by decide +kernel
theorem dX5_minutesStill_25 : decode cX5_minutesStill 25 = .ok (.iconst 2, 1) := by decide +kernel
theorem dX5_minutesStill_26 : decode cX5_minutesStill 26 = .ok (.if_icmp .eq 40, 3) := by decide +kernel
theorem dX5_minutesStill_29 : decode cX5_minutesStill 29 = .ok (.iload_n 3, 1) := by decide +kernel
theorem dX5_minutesStill_30 : decode cX5_minutesStill 30 = .ok (.aload_n 0, 1) := by decide +kernel
theorem dX5_minutesStill_31 : decode cX5_minutesStill 31 = .ok (.iload_n 1, 1) := by decide +kernel
theorem dX5_minutesStill_32 : decode cX5_minutesStill 32 = .ok (.iconst 1, 1) := by decide +kernel
theorem dX5_minutesStill_33 : decode cX5_minutesStill 33 = .ok (.invokevirtual 122, 3) := by decide +kernel
theorem dX5_minutesStill_36 : decode cX5_minutesStill 36 = .ok (.if_icmp .eq 30, 3) := by decide +kernel
theorem dX5_minutesStill_39 : decode cX5_minutesStill 39 = .ok (.aload_n 0, 1) := by decide +kernel
theorem dX5_minutesStill_40 : decode cX5_minutesStill 40 = .ok (.iload_n 1, 1) := by decide +kernel
theorem dX5_minutesStill_41 : decode cX5_minutesStill 41 = .ok (.iload_n 3, 1) := by decide +kernel
theorem dX5_minutesStill_42 : decode cX5_minutesStill 42 = .ok (.invokevirtual 161, 3) := by decide +kernel
theorem dX5_minutesStill_45 : decode cX5_minutesStill 45 = .ok (.istore 5, 2) := by decide +kernel
theorem dX5_minutesStill_47 : decode cX5_minutesStill 47 = .ok (.iload_n 2, 1) := by decide +kernel
theorem dX5_minutesStill_48 : decode cX5_minutesStill 48 = .ok (.aload_n 0, 1) := by decide +kernel
theorem dX5_minutesStill_49 : decode cX5_minutesStill 49 = .ok (.iload_n 3, 1) := by decide +kernel
theorem dX5_minutesStill_50 : decode cX5_minutesStill 50 = .ok (.iload 5, 2) := by decide +kernel
theorem dX5_minutesStill_52 : decode cX5_minutesStill 52 = .ok (.invokevirtual 164, 3) := by decide +kernel
theorem dX5_minutesStill_55 : decode cX5_minutesStill 55 = .ok (.iadd, 1) := by decide +kernel
theorem dX5_minutesStill_56 : decode cX5_minutesStill 56 = .ok (.istore_n 2, 1) := by decide +kernel
theorem dX5_minutesStill_57 : decode cX5_minutesStill 57 = .ok (.iload 5, 2) := by decide +kernel
theorem dX5_minutesStill_59 : decode cX5_minutesStill 59 = .ok (.istore_n 3, 1) := by decide +kernel
theorem dX5_minutesStill_60 : decode cX5_minutesStill 60 = .ok (.iinc 4 1, 3) := by decide +kernel
theorem dX5_minutesStill_63 : decode cX5_minutesStill 63 = .ok (.goto (-51), 3) := by decide +kernel
theorem dX5_minutesStill_66 : decode cX5_minutesStill 66 = .ok (.iload_n 2, 1) := by decide +kernel
theorem dX5_minutesStill_67 : decode cX5_minutesStill 67 = .ok (.ireturn, 1) := by decide +kernel
theorem dX5_withStatus_0 : decode cX5_withStatus 0 = .ok (.iconst 0, 1) := by decide +kernel
theorem dX5_withStatus_1 : decode cX5_withStatus 1 = .ok (.istore_n 2, 1) := by decide +kernel
theorem dX5_withStatus_2 : decode cX5_withStatus 2 = .ok (.iconst 0, 1) := by decide +kernel
theorem dX5_withStatus_3 : decode cX5_withStatus 3 = .ok (.istore_n 3, 1) := by decide +kernel
theorem dX5_withStatus_4 : decode cX5_withStatus 4 = .ok (.iload_n 3, 1) := by decide +kernel
theorem dX5_withStatus_5 : decode cX5_withStatus 5 = .ok (.aload_n 0, 1) := by decide +kernel
theorem dX5_withStatus_6 : decode cX5_withStatus 6 = .ok (.getfield 7, 3) := by decide +kernel
theorem dX5_withStatus_9 : decode cX5_withStatus 9 = .ok (.iconst 1, 1) := by decide +kernel
theorem dX5_withStatus_10 : decode cX5_withStatus 10 = .ok (.iaload, 1) := by decide +kernel
theorem dX5_withStatus_11 : decode cX5_withStatus 11 = .ok (.if_icmp .ge 30, 3) := by decide +kernel
theorem dX5_withStatus_14 : decode cX5_withStatus 14 = .ok (.iload_n 2, 1) := by decide +kernel
theorem dX5_withStatus_15 : decode cX5_withStatus 15 = .ok (.aload_n 0, 1) := by decide +kernel
theorem dX5_withStatus_16 : decode cX5_withStatus 16 = .ok (.iload_n 3, 1) := by decide +kernel
theorem dX5_withStatus_17 : decode cX5_withStatus 17 = .ok (.iconst 4, 1) := by decide +kernel
theorem dX5_withStatus_18 : decode cX5_withStatus 18 = .ok (.invokevirtual 122, 3) := by decide +kernel
theorem dX5_withStatus_21 : decode cX5_withStatus 21 = .ok (.iload_n 1, 1) := by decide +kernel
theorem dX5_withStatus_22 : decode cX5_withStatus 22 = .ok (.if_icmp .ne 7, 3) := by decide +kernel
theorem dX5_withStatus_25 : decode cX5_withStatus 25 = .ok (.iconst 1, 1) := by decide +kernel
theorem dX5_withStatus_26 : decode cX5_withStatus 26 = .ok (.goto 4, 3) := by decide +kernel
theorem dX5_withStatus_29 : decode cX5_withStatus 29 = .ok (.iconst 0, 1) := by decide +kernel
theorem dX5_withStatus_30 : decode cX5_withStatus 30 = .ok (.invokestatic 167, 3) := by decide +kernel
theorem dX5_withStatus_33 : decode cX5_withStatus 33 = .ok (.iadd, 1) := by decide +kernel
theorem dX5_withStatus_34 : decode cX5_withStatus 34 = .ok (.istore_n 2, 1) := by decide +kernel
theorem dX5_withStatus_35 : decode cX5_withStatus 35 = .ok (.iinc 3 1, 3) := by decide +kernel
theorem dX5_withStatus_38 : decode cX5_withStatus 38 = .ok (.goto (-34), 3) := by decide +kernel
theorem dX5_withStatus_41 : decode cX5_withStatus 41 = .ok (.iload_n 2, 1) := by decide +kernel
theorem dX5_withStatus_42 : decode cX5_withStatus 42 = .ok (.ireturn, 1) := by decide +kernel
theorem dX5_movesLeft_0 : decode cX5_movesLeft 0 = .ok (.iconst 0, 1) := by decide +kernel
theorem dX5_movesLeft_1 : decode cX5_movesLeft 1 = .ok (.istore_n 1, 1) := by decide +kernel
theorem dX5_movesLeft_2 : decode cX5_movesLeft 2 = .ok (.iconst 0, 1) := by decide +kernel
theorem dX5_movesLeft_3 : decode cX5_movesLeft 3 = .ok (.istore_n 2, 1) := by decide +kernel
theorem dX5_movesLeft_4 : decode cX5_movesLeft 4 = .ok (.iload_n 2, 1) := by decide +kernel
theorem dX5_movesLeft_5 : decode cX5_movesLeft 5 = .ok (.aload_n 0, 1) := by decide +kernel
theorem dX5_movesLeft_6 : decode cX5_movesLeft 6 = .ok (.getfield 7, 3) := by decide +kernel
theorem dX5_movesLeft_9 : decode cX5_movesLeft 9 = .ok (.iconst 1, 1) := by decide +kernel
theorem dX5_movesLeft_10 : decode cX5_movesLeft 10 = .ok (.iaload, 1) := by decide +kernel
theorem dX5_movesLeft_11 : decode cX5_movesLeft 11 = .ok (.if_icmp .ge 50, 3) := by decide +kernel
theorem dX5_movesLeft_14 : decode cX5_movesLeft 14 = .ok (.aload_n 0, 1) := by decide +kernel
theorem dX5_movesLeft_15 : decode cX5_movesLeft 15 = .ok (.iload_n 2, 1) := by decide +kernel
theorem dX5_movesLeft_16 : decode cX5_movesLeft 16 = .ok (.iconst 1, 1) := by decide +kernel
theorem dX5_movesLeft_17 : decode cX5_movesLeft 17 = .ok (.invokevirtual 122, 3) := by decide +kernel
theorem dX5_movesLeft_20 : decode cX5_movesLeft 20 = .ok (.aload_n 0, 1) := by decide +kernel
theorem dX5_movesLeft_21 : decode cX5_movesLeft 21 = .ok (.iload_n 2, 1) := by decide +kernel
theorem dX5_movesLeft_22 : decode cX5_movesLeft 22 = .ok (.iconst 3, 1) := by decide +kernel
theorem dX5_movesLeft_23 : decode cX5_movesLeft 23 = .ok (.invokevirtual 122, 3) := by decide +kernel
theorem dX5_movesLeft_26 : decode cX5_movesLeft 26 = .ok (.isub, 1) := by decide +kernel
theorem dX5_movesLeft_27 : decode cX5_movesLeft 27 = .ok (.istore_n 3, 1) := by decide +kernel
theorem dX5_movesLeft_28 : decode cX5_movesLeft 28 = .ok (.iload_n 1, 1) := by decide +kernel
theorem dX5_movesLeft_29 : decode cX5_movesLeft 29 = .ok (.aload_n 0, 1) := by decide +kernel
theorem dX5_movesLeft_30 : decode cX5_movesLeft 30 = .ok (.iload_n 2, 1) := by decide +kernel
theorem dX5_movesLeft_31 : decode cX5_movesLeft 31 = .ok (.iconst 4, 1) := by decide +kernel
theorem dX5_movesLeft_32 : decode cX5_movesLeft 32 = .ok (.invokevirtual 122, 3) := by decide +kernel
theorem dX5_movesLeft_35 : decode cX5_movesLeft 35 = .ok (.iconst 2, 1) := by decide +kernel
theorem dX5_movesLeft_36 : decode cX5_movesLeft 36 = .ok (.if_icmp .ne 7, 3) := by decide +kernel
theorem dX5_movesLeft_39 : decode cX5_movesLeft 39 = .ok (.iconst 0, 1) := by decide +kernel
theorem dX5_movesLeft_40 : decode cX5_movesLeft 40 = .ok (.goto 13, 3) := by decide +kernel
theorem dX5_movesLeft_43 : decode cX5_movesLeft 43 = .ok (.iload_n 3, 1) := by decide +kernel
theorem dX5_movesLeft_44 : decode cX5_movesLeft 44 = .ok (.ifCond .ge 8, 3) := by decide +kernel
theorem dX5_movesLeft_47 : decode cX5_movesLeft 47 = .ok (.iload_n 3, 1) := by decide +kernel
theorem dX5_movesLeft_48 : decode cX5_movesLeft 48 = .ok (.ineg, 1) := by decide +kernel
theorem dX5_movesLeft_49 : decode cX5_movesLeft 49 = .ok (.goto 4, 3) := by decide +kernel
theorem dX5_movesLeft_52 : decode cX5_movesLeft 52 = .ok (.iload_n 3, 1) := by decide +kernel
theorem dX5_movesLeft_53 : decode cX5_movesLeft 53 = .ok (.iadd, 1) := by decide +kernel
theorem dX5_movesLeft_54 : decode cX5_movesLeft 54 = .ok (.istore_n 1, 1) := by decide +kernel
theorem dX5_movesLeft_55 : decode cX5_movesLeft 55 = .ok (.iinc 2 1, 3) := by decide +kernel
theorem dX5_movesLeft_58 : decode cX5_movesLeft 58 = .ok (.goto (-54), 3) := by decide +kernel
theorem dX5_movesLeft_61 : decode cX5_movesLeft 61 = .ok (.iload_n 1, 1) := by decide +kernel
theorem dX5_movesLeft_62 : decode cX5_movesLeft 62 = .ok (.ireturn, 1) := by decide +kernel
theorem dX5_weightOf_0 : decode cX5_weightOf 0 = .ok (.iload_n 0, 1) := by decide +kernel
theorem dX5_weightOf_1 : decode cX5_weightOf 1 = .ok (.ifCond .ne 7, 3) := by decide +kernel
theorem dX5_weightOf_4 : decode cX5_weightOf 4 = .ok (.iconst 1, 1) := by decide +kernel
theorem dX5_weightOf_5 : decode cX5_weightOf 5 = .ok (.goto 26, 3) := by decide +kernel
theorem dX5_weightOf_8 : decode cX5_weightOf 8 = .ok (.iload_n 0, 1) := by decide +kernel
theorem dX5_weightOf_9 : decode cX5_weightOf 9 = .ok (.iconst 1, 1) := by decide +kernel
theorem dX5_weightOf_10 : decode cX5_weightOf 10 = .ok (.if_icmp .ne 8, 3) := by decide +kernel
theorem dX5_weightOf_13 : decode cX5_weightOf 13 = .ok (.bipush 7, 2) := by decide +kernel
theorem dX5_weightOf_15 : decode cX5_weightOf 15 = .ok (.goto 16, 3) := by decide +kernel
theorem dX5_weightOf_18 : decode cX5_weightOf 18 = .ok (.iload_n 0, 1) := by decide +kernel
theorem dX5_weightOf_19 : decode cX5_weightOf 19 = .ok (.iconst 2, 1) := by decide +kernel
theorem dX5_weightOf_20 : decode cX5_weightOf 20 = .ok (.if_icmp .ne 8, 3) := by decide +kernel
theorem dX5_weightOf_23 : decode cX5_weightOf 23 = .ok (.bipush 49, 2) := by decide +kernel
theorem dX5_weightOf_25 : decode cX5_weightOf 25 = .ok (.goto 6, 3) := by decide +kernel
theorem dX5_weightOf_28 : decode cX5_weightOf 28 = .ok (.sipush 343, 3) := by decide +kernel
theorem dX5_weightOf_31 : decode cX5_weightOf 31 = .ok (.ireturn, 1) := by decide +kernel
theorem dX5_postureNow_0 : decode cX5_postureNow 0 = .ok (.iconst 0, 1) := by decide +kernel
theorem dX5_postureNow_1 : decode cX5_postureNow 1 = .ok (.istore_n 1, 1) := by decide +kernel
theorem dX5_postureNow_2 : decode cX5_postureNow 2 = .ok (.iconst 0, 1) := by decide +kernel
theorem dX5_postureNow_3 : decode cX5_postureNow 3 = .ok (.istore_n 2, 1) := by decide +kernel
theorem dX5_postureNow_4 : decode cX5_postureNow 4 = .ok (.iload_n 2, 1) := by decide +kernel
theorem dX5_postureNow_5 : decode cX5_postureNow 5 = .ok (.aload_n 0, 1) := by decide +kernel
theorem dX5_postureNow_6 : decode cX5_postureNow 6 = .ok (.getfield 7, 3) := by decide +kernel
theorem dX5_postureNow_9 : decode cX5_postureNow 9 = .ok (.iconst 1, 1) := by decide +kernel
theorem dX5_postureNow_10 : decode cX5_postureNow 10 = .ok (.iaload, 1) := by decide +kernel
theorem dX5_postureNow_11 : decode cX5_postureNow 11 = .ok (.if_icmp .ge 37, 3) := by decide +kernel
theorem dX5_postureNow_14 : decode cX5_postureNow 14 = .ok (.iload_n 1, 1) := by decide +kernel
theorem dX5_postureNow_15 : decode cX5_postureNow 15 = .ok (.aload_n 0, 1) := by decide +kernel
theorem dX5_postureNow_16 : decode cX5_postureNow 16 = .ok (.iload_n 2, 1) := by decide +kernel
theorem dX5_postureNow_17 : decode cX5_postureNow 17 = .ok (.invokevirtual 171, 3) := by decide +kernel
theorem dX5_postureNow_20 : decode cX5_postureNow 20 = .ok (.ifCond .eq 7, 3) := by decide +kernel
theorem dX5_postureNow_23 : decode cX5_postureNow 23 = .ok (.iconst 0, 1) := by decide +kernel
theorem dX5_postureNow_24 : decode cX5_postureNow 24 = .ok (.goto 16, 3) := by decide +kernel
theorem dX5_postureNow_27 : decode cX5_postureNow 27 = .ok (.iload_n 2, 1) := by decide +kernel
theorem dX5_postureNow_28 : decode cX5_postureNow 28 = .ok (.invokestatic 174, 3) := by decide +kernel
theorem dX5_postureNow_31 : decode cX5_postureNow 31 = .ok (.aload_n 0, 1) := by decide +kernel
theorem dX5_postureNow_32 : decode cX5_postureNow 32 = .ok (.iload_n 2, 1) := by decide +kernel
theorem dX5_postureNow_33 : decode cX5_postureNow 33 = .ok (.iconst 3, 1) := by decide +kernel
theorem dX5_postureNow_34 : decode cX5_postureNow 34 = .ok (.invokevirtual 122, 3) := by decide +kernel
theorem dX5_postureNow_37 : decode cX5_postureNow 37 = .ok (.iconst 1, 1) := by decide +kernel
theorem dX5_postureNow_38 : decode cX5_postureNow 38 = .ok (.iadd, 1) := by decide +kernel
theorem dX5_postureNow_39 : decode cX5_postureNow 39 = .ok (.imul, 1) := by decide +kernel
theorem dX5_postureNow_40 : decode cX5_postureNow 40 = .ok (.iadd, 1) := by decide +kernel
theorem dX5_postureNow_41 : decode cX5_postureNow 41 = .ok (.istore_n 1, 1) := by decide +kernel
theorem dX5_postureNow_42 : decode cX5_postureNow 42 = .ok (.iinc 2 1, 3) := by decide +kernel
theorem dX5_postureNow_45 : decode cX5_postureNow 45 = .ok (.goto (-41), 3) := by decide +kernel
theorem dX5_postureNow_48 : decode cX5_postureNow 48 = .ok (.iload_n 1, 1) := by decide +kernel
theorem dX5_postureNow_49 : decode cX5_postureNow 49 = .ok (.ireturn, 1) := by decide +kernel
theorem dX5_decode_0 : decode cX5_decode 0 = .ok (.iconst 0, 1) := by decide +kernel
theorem dX5_decode_1 : decode cX5_decode 1 = .ok (.istore_n 2, 1) := by decide +kernel
theorem dX5_decode_2 : decode cX5_decode 2 = .ok (.iload_n 2, 1) := by decide +kernel
theorem dX5_decode_3 : decode cX5_decode 3 = .ok (.iconst 4, 1) := by decide +kernel
theorem dX5_decode_4 : decode cX5_decode 4 = .ok (.if_icmp .ge 24, 3) := by decide +kernel
theorem dX5_decode_7 : decode cX5_decode 7 = .ok (.aload_n 0, 1) := by decide +kernel
theorem dX5_decode_8 : decode cX5_decode 8 = .ok (.getfield 29, 3) := by decide +kernel
theorem dX5_decode_11 : decode cX5_decode 11 = .ok (.iload_n 2, 1) := by decide +kernel
theorem dX5_decode_12 : decode cX5_decode 12 = .ok (.iload_n 1, 1) := by decide +kernel
theorem dX5_decode_13 : decode cX5_decode 13 = .ok (.iload_n 2, 1) := by decide +kernel
theorem dX5_decode_14 : decode cX5_decode 14 = .ok (.invokestatic 174, 3) := by decide +kernel
theorem dX5_decode_17 : decode cX5_decode 17 = .ok (.idiv, 1) := by decide +kernel
theorem dX5_decode_18 : decode cX5_decode 18 = .ok (.bipush 7, 2) := by decide +kernel
theorem dX5_decode_20 : decode cX5_decode 20 = .ok (.irem, 1) := by decide +kernel
theorem dX5_decode_21 : decode cX5_decode 21 = .ok (.iastore, 1) := by decide +kernel
theorem dX5_decode_22 : decode cX5_decode 22 = .ok (.iinc 2 1, 3) := by decide +kernel
theorem dX5_decode_25 : decode cX5_decode 25 = .ok (.goto (-23), 3) := by decide +kernel
theorem dX5_decode_28 : decode cX5_decode 28 = .ok (.return_, 1) := by decide +kernel
theorem dX5_encode_0 : decode cX5_encode 0 = .ok (.iconst 0, 1) := by decide +kernel
theorem dX5_encode_1 : decode cX5_encode 1 = .ok (.istore_n 1, 1) := by decide +kernel
theorem dX5_encode_2 : decode cX5_encode 2 = .ok (.iconst 0, 1) := by decide +kernel
theorem dX5_encode_3 : decode cX5_encode 3 = .ok (.istore_n 2, 1) := by decide +kernel
theorem dX5_encode_4 : decode cX5_encode 4 = .ok (.iload_n 2, 1) := by decide +kernel
theorem dX5_encode_5 : decode cX5_encode 5 = .ok (.iconst 4, 1) := by decide +kernel
theorem dX5_encode_6 : decode cX5_encode 6 = .ok (.if_icmp .ge 23, 3) := by decide +kernel
theorem dX5_encode_9 : decode cX5_encode 9 = .ok (.iload_n 1, 1) := by decide +kernel
theorem dX5_encode_10 : decode cX5_encode 10 = .ok (.iload_n 2, 1) := by decide +kernel
theorem dX5_encode_11 : decode cX5_encode 11 = .ok (.invokestatic 174, 3) := by decide +kernel
theorem dX5_encode_14 : decode cX5_encode 14 = .ok (.aload_n 0, 1) := by decide +kernel
theorem dX5_encode_15 : decode cX5_encode 15 = .ok (.getfield 29, 3) := by decide +kernel
theorem dX5_encode_18 : decode cX5_encode 18 = .ok (.iload_n 2, 1) := by decide +kernel
theorem dX5_encode_19 : decode cX5_encode 19 = .ok (.iaload, 1) := by decide +kernel
theorem dX5_encode_20 : decode cX5_encode 20 = .ok (.imul, 1) := by decide +kernel
theorem dX5_encode_21 : decode cX5_encode 21 = .ok (.iadd, 1) := by decide +kernel
theorem dX5_encode_22 : decode cX5_encode 22 = .ok (.istore_n 1, 1) := by decide +kernel
theorem dX5_encode_23 : decode cX5_encode 23 = .ok (.iinc 2 1, 3) := by decide +kernel
theorem dX5_encode_26 : decode cX5_encode 26 = .ok (.goto (-22), 3) := by decide +kernel
theorem dX5_encode_29 : decode cX5_encode 29 = .ok (.iload_n 1, 1) := by decide +kernel
theorem dX5_encode_30 : decode cX5_encode 30 = .ok (.ireturn, 1) := by decide +kernel
theorem dX5_tracksFor_0 : decode cX5_tracksFor 0 = .ok (.iconst 0, 1) := by decide +kernel
theorem dX5_tracksFor_1 : decode cX5_tracksFor 1 = .ok (.istore_n 3, 1) := by decide +kernel
theorem dX5_tracksFor_2 : decode cX5_tracksFor 2 = .ok (.iconst 0, 1) := by decide +kernel
theorem dX5_tracksFor_3 : decode cX5_tracksFor 3 = .ok (.istore 4, 2) := by decide +kernel
theorem dX5_tracksFor_5 : decode cX5_tracksFor 5 = .ok (.iload 4, 2) := by decide +kernel
theorem dX5_tracksFor_7 : decode cX5_tracksFor 7 = .ok (.aload_n 0, 1) := by decide +kernel
theorem dX5_tracksFor_8 : decode cX5_tracksFor 8 = .ok (.iload_n 1, 1) := by decide +kernel
theorem dX5_tracksFor_9 : decode cX5_tracksFor 9 = .ok (.iconst 0, 1) := by decide +kernel
theorem dX5_tracksFor_10 : decode cX5_tracksFor 10 = .ok (.invokevirtual 158, 3) := by decide +kernel
theorem dX5_tracksFor_13 : decode cX5_tracksFor 13 = .ok (.if_icmp .ge 33, 3) := by decide +kernel
theorem dX5_tracksFor_16 : decode cX5_tracksFor 16 = .ok (.iload_n 3, 1) := by decide +kernel
theorem dX5_tracksFor_17 : decode cX5_tracksFor 17 = .ok (.aload_n 0, 1) := by decide +kernel
theorem dX5_tracksFor_18 : decode cX5_tracksFor 18 = .ok (.iload_n 1, 1) := by decide +kernel
theorem dX5_tracksFor_19 : decode cX5_tracksFor 19 = .ok (.iconst 1, 1) := by decide +kernel
theorem dX5_tracksFor_20 : decode cX5_tracksFor 20 = .ok (.iload 4, 2) := by decide +kernel
theorem dX5_tracksFor_22 : decode cX5_tracksFor 22 = .ok (.iadd, 1) := by decide +kernel
theorem dX5_tracksFor_23 : decode cX5_tracksFor 23 = .ok (.invokevirtual 158, 3) := by decide +kernel
theorem dX5_tracksFor_26 : decode cX5_tracksFor 26 = .ok (.iload_n 2, 1) := by decide +kernel
theorem dX5_tracksFor_27 : decode cX5_tracksFor 27 = .ok (.if_icmp .lt 7, 3) := by decide +kernel
theorem dX5_tracksFor_30 : decode cX5_tracksFor 30 = .ok (.iconst 1, 1) := by decide +kernel
theorem dX5_tracksFor_31 : decode cX5_tracksFor 31 = .ok (.goto 4, 3) := by decide +kernel
theorem dX5_tracksFor_34 : decode cX5_tracksFor 34 = .ok (.iconst 0, 1) := by decide +kernel
theorem dX5_tracksFor_35 : decode cX5_tracksFor 35 = .ok (.invokestatic 167, 3) := by decide +kernel
theorem dX5_tracksFor_38 : decode cX5_tracksFor 38 = .ok (.iadd, 1) := by decide +kernel
theorem dX5_tracksFor_39 : decode cX5_tracksFor 39 = .ok (.istore_n 3, 1) := by decide +kernel
theorem dX5_tracksFor_40 : decode cX5_tracksFor 40 = .ok (.iinc 4 1, 3) := by decide +kernel
theorem dX5_tracksFor_43 : decode cX5_tracksFor 43 = .ok (.goto (-38), 3) := by decide +kernel
theorem dX5_tracksFor_46 : decode cX5_tracksFor 46 = .ok (.iload_n 3, 1) := by decide +kernel
theorem dX5_tracksFor_47 : decode cX5_tracksFor 47 = .ok (.ireturn, 1) := by decide +kernel
theorem dX5_trainsFor_0 : decode cX5_trainsFor 0 = .ok (.iconst 0, 1) := by decide +kernel
theorem dX5_trainsFor_1 : decode cX5_trainsFor 1 = .ok (.istore_n 3, 1) := by decide +kernel
theorem dX5_trainsFor_2 : decode cX5_trainsFor 2 = .ok (.iconst 0, 1) := by decide +kernel
theorem dX5_trainsFor_3 : decode cX5_trainsFor 3 = .ok (.istore 4, 2) := by decide +kernel
theorem dX5_trainsFor_5 : decode cX5_trainsFor 5 = .ok (.iload 4, 2) := by decide +kernel
theorem dX5_trainsFor_7 : decode cX5_trainsFor 7 = .ok (.aload_n 0, 1) := by decide +kernel
theorem dX5_trainsFor_8 : decode cX5_trainsFor 8 = .ok (.getfield 7, 3) := by decide +kernel
theorem dX5_trainsFor_11 : decode cX5_trainsFor 11 = .ok (.iconst 1, 1) := by decide +kernel
theorem dX5_trainsFor_12 : decode cX5_trainsFor 12 = .ok (.iaload, 1) := by decide +kernel
theorem dX5_trainsFor_13 : decode cX5_trainsFor 13 = .ok (.if_icmp .ge 44, 3) := by decide +kernel
theorem dX5_trainsFor_16 : decode cX5_trainsFor 16 = .ok (.iload_n 3, 1) := by decide +kernel
theorem dX5_trainsFor_17 : decode cX5_trainsFor 17 = .ok (.aload_n 0, 1) := by decide +kernel
theorem dX5_trainsFor_18 : decode cX5_trainsFor 18 = .ok (.getfield 29, 3) := by decide +kernel
theorem dX5_trainsFor_21 : decode cX5_trainsFor 21 = .ok (.iload 4, 2) := by decide +kernel
theorem dX5_trainsFor_23 : decode cX5_trainsFor 23 = .ok (.iaload, 1) := by decide +kernel
theorem dX5_trainsFor_24 : decode cX5_trainsFor 24 = .ok (.iload_n 1, 1) := by decide +kernel
theorem dX5_trainsFor_25 : decode cX5_trainsFor 25 = .ok (.iconst 1, 1) := by decide +kernel
theorem dX5_trainsFor_26 : decode cX5_trainsFor 26 = .ok (.iadd, 1) := by decide +kernel
theorem dX5_trainsFor_27 : decode cX5_trainsFor 27 = .ok (.if_icmp .ne 18, 3) := by decide +kernel
theorem dX5_trainsFor_30 : decode cX5_trainsFor 30 = .ok (.aload_n 0, 1) := by decide +kernel
theorem dX5_trainsFor_31 : decode cX5_trainsFor 31 = .ok (.iload 4, 2) := by decide +kernel
theorem dX5_trainsFor_33 : decode cX5_trainsFor 33 = .ok (.iconst 2, 1) := by decide +kernel
theorem dX5_trainsFor_34 : decode cX5_trainsFor 34 = .ok (.invokevirtual 122, 3) := by decide +kernel
theorem dX5_trainsFor_37 : decode cX5_trainsFor 37 = .ok (.iload_n 2, 1) := by decide +kernel
theorem dX5_trainsFor_38 : decode cX5_trainsFor 38 = .ok (.if_icmp .lt 7, 3) := by decide +kernel
theorem dX5_trainsFor_41 : decode cX5_trainsFor 41 = .ok (.iconst 1, 1) := by decide +kernel
theorem dX5_trainsFor_42 : decode cX5_trainsFor 42 = .ok (.goto 4, 3) := by decide +kernel
theorem dX5_trainsFor_45 : decode cX5_trainsFor 45 = .ok (.iconst 0, 1) := by decide +kernel
theorem dX5_trainsFor_46 : decode cX5_trainsFor 46 = .ok (.invokestatic 167, 3) := by decide +kernel
theorem dX5_trainsFor_49 : decode cX5_trainsFor 49 = .ok (.iadd, 1) := by decide +kernel
theorem dX5_trainsFor_50 : decode cX5_trainsFor 50 = .ok (.istore_n 3, 1) := by decide +kernel
theorem dX5_trainsFor_51 : decode cX5_trainsFor 51 = .ok (.iinc 4 1, 3) := by decide +kernel
theorem dX5_trainsFor_54 : decode cX5_trainsFor 54 = .ok (.goto (-49), 3) := by decide +kernel
theorem dX5_trainsFor_57 : decode cX5_trainsFor 57 = .ok (.iload_n 3, 1) := by decide +kernel
theorem dX5_trainsFor_58 : decode cX5_trainsFor 58 = .ok (.ireturn, 1) := by decide +kernel
theorem dX5_holds_0 : decode cX5_holds 0 = .ok (.iconst 1, 1) := by decide +kernel
theorem dX5_holds_1 : decode cX5_holds 1 = .ok (.istore_n 2, 1) := by decide +kernel
theorem dX5_holds_2 : decode cX5_holds 2 = .ok (.iconst 0, 1) := by decide +kernel
theorem dX5_holds_3 : decode cX5_holds 3 = .ok (.istore_n 3, 1) := by decide +kernel
theorem dX5_holds_4 : decode cX5_holds 4 = .ok (.iload_n 3, 1) := by decide +kernel
theorem dX5_holds_5 : decode cX5_holds 5 = .ok (.aload_n 0, 1) := by decide +kernel
theorem dX5_holds_6 : decode cX5_holds 6 = .ok (.getfield 7, 3) := by decide +kernel
theorem dX5_holds_9 : decode cX5_holds 9 = .ok (.iconst 1, 1) := by decide +kernel
theorem dX5_holds_10 : decode cX5_holds 10 = .ok (.iaload, 1) := by decide +kernel
theorem dX5_holds_11 : decode cX5_holds 11 = .ok (.if_icmp .ge 56, 3) := by decide +kernel
theorem dX5_holds_14 : decode cX5_holds 14 = .ok (.aload_n 0, 1) := by decide +kernel
theorem dX5_holds_15 : decode cX5_holds 15 = .ok (.getfield 29, 3) := by decide +kernel
theorem dX5_holds_18 : decode cX5_holds 18 = .ok (.iload_n 3, 1) := by decide +kernel
theorem dX5_holds_19 : decode cX5_holds 19 = .ok (.iaload, 1) := by decide +kernel
theorem dX5_holds_20 : decode cX5_holds 20 = .ok (.iload_n 1, 1) := by decide +kernel
theorem dX5_holds_21 : decode cX5_holds 21 = .ok (.iconst 1, 1) := by decide +kernel
theorem dX5_holds_22 : decode cX5_holds 22 = .ok (.iadd, 1) := by decide +kernel
theorem dX5_holds_23 : decode cX5_holds 23 = .ok (.if_icmp .ne 38, 3) := by decide +kernel
theorem dX5_holds_26 : decode cX5_holds 26 = .ok (.iload_n 2, 1) := by decide +kernel
theorem dX5_holds_27 : decode cX5_holds 27 = .ok (.ifCond .eq 32, 3) := by decide +kernel
theorem dX5_holds_30 : decode cX5_holds 30 = .ok (.aload_n 0, 1) := by decide +kernel
theorem dX5_holds_31 : decode cX5_holds 31 = .ok (.iload_n 1, 1) := by decide +kernel
theorem dX5_holds_32 : decode cX5_holds 32 = .ok (.aload_n 0, 1) := by decide +kernel
theorem dX5_holds_33 : decode cX5_holds 33 = .ok (.iload_n 3, 1) := by decide +kernel
theorem dX5_holds_34 : decode cX5_holds 34 = .ok (.iconst 2, 1) := by decide +kernel
theorem dX5_holds_35 : decode cX5_holds 35 = .ok (.invokevirtual 122, 3) := by decide +kernel
theorem dX5_holds_38 : decode cX5_holds 38 = .ok (.invokevirtual 177, 3) := by decide +kernel
theorem dX5_holds_41 : decode cX5_holds 41 = .ok (.aload_n 0, 1) := by decide +kernel
theorem dX5_holds_42 : decode cX5_holds 42 = .ok (.iload_n 1, 1) := by decide +kernel
theorem dX5_holds_43 : decode cX5_holds 43 = .ok (.aload_n 0, 1) := by decide +kernel
theorem dX5_holds_44 : decode cX5_holds 44 = .ok (.iload_n 3, 1) := by decide +kernel
theorem dX5_holds_45 : decode cX5_holds 45 = .ok (.iconst 2, 1) := by decide +kernel
theorem dX5_holds_46 : decode cX5_holds 46 = .ok (.invokevirtual 122, 3) := by decide +kernel
theorem dX5_holds_49 : decode cX5_holds 49 = .ok (.invokevirtual 180, 3) := by decide +kernel
theorem dX5_holds_52 : decode cX5_holds 52 = .ok (.if_icmp .gt 7, 3) := by decide +kernel
theorem dX5_holds_55 : decode cX5_holds 55 = .ok (.iconst 1, 1) := by decide +kernel
theorem dX5_holds_56 : decode cX5_holds 56 = .ok (.goto 4, 3) := by decide +kernel
theorem dX5_holds_59 : decode cX5_holds 59 = .ok (.iconst 0, 1) := by decide +kernel
theorem dX5_holds_60 : decode cX5_holds 60 = .ok (.istore_n 2, 1) := by decide +kernel
theorem dX5_holds_61 : decode cX5_holds 61 = .ok (.iinc 3 1, 3) := by decide +kernel
theorem dX5_holds_64 : decode cX5_holds 64 = .ok (.goto (-60), 3) := by decide +kernel
theorem dX5_holds_67 : decode cX5_holds 67 = .ok (.iload_n 2, 1) := by decide +kernel
theorem dX5_holds_68 : decode cX5_holds 68 = .ok (.ireturn, 1) := by decide +kernel
theorem dX5_movedBy_0 : decode cX5_movedBy 0 = .ok (.aload_n 0, 1) := by decide +kernel
theorem dX5_movedBy_1 : decode cX5_movedBy 1 = .ok (.getfield 29, 3) := by decide +kernel
theorem dX5_movedBy_4 : decode cX5_movedBy 4 = .ok (.iload_n 1, 1) := by decide +kernel
theorem dX5_movedBy_5 : decode cX5_movedBy 5 = .ok (.iaload, 1) := by decide +kernel
theorem dX5_movedBy_6 : decode cX5_movedBy 6 = .ok (.ifCond .ne 6, 3) := by decide +kernel
theorem dX5_movedBy_9 : decode cX5_movedBy 9 = .ok (.bipush (-4), 2) := by decide +kernel
theorem dX5_movedBy_11 : decode cX5_movedBy 11 = .ok (.ireturn, 1) := by decide +kernel
theorem dX5_movedBy_12 : decode cX5_movedBy 12 = .ok (.aload_n 0, 1) := by decide +kernel
theorem dX5_movedBy_13 : decode cX5_movedBy 13 = .ok (.getfield 29, 3) := by decide +kernel
theorem dX5_movedBy_16 : decode cX5_movedBy 16 = .ok (.iload_n 1, 1) := by decide +kernel
theorem dX5_movedBy_17 : decode cX5_movedBy 17 = .ok (.iaload, 1) := by decide +kernel
theorem dX5_movedBy_18 : decode cX5_movedBy 18 = .ok (.istore_n 2, 1) := by decide +kernel
theorem dX5_movedBy_19 : decode cX5_movedBy 19 = .ok (.aload_n 0, 1) := by decide +kernel
theorem dX5_movedBy_20 : decode cX5_movedBy 20 = .ok (.iload_n 1, 1) := by decide +kernel
theorem dX5_movedBy_21 : decode cX5_movedBy 21 = .ok (.iload_n 2, 1) := by decide +kernel
theorem dX5_movedBy_22 : decode cX5_movedBy 22 = .ok (.iconst 1, 1) := by decide +kernel
theorem dX5_movedBy_23 : decode cX5_movedBy 23 = .ok (.isub, 1) := by decide +kernel
theorem dX5_movedBy_24 : decode cX5_movedBy 24 = .ok (.invokevirtual 161, 3) := by decide +kernel
theorem dX5_movedBy_27 : decode cX5_movedBy 27 = .ok (.istore_n 3, 1) := by decide +kernel
theorem dX5_movedBy_28 : decode cX5_movedBy 28 = .ok (.iconst 1, 1) := by decide +kernel
theorem dX5_movedBy_29 : decode cX5_movedBy 29 = .ok (.istore 4, 2) := by decide +kernel
theorem dX5_movedBy_31 : decode cX5_movedBy 31 = .ok (.iload_n 3, 1) := by decide +kernel
theorem dX5_movedBy_32 : decode cX5_movedBy 32 = .ok (.aload_n 0, 1) := by decide +kernel
theorem dX5_movedBy_33 : decode cX5_movedBy 33 = .ok (.iload_n 1, 1) := by decide +kernel
theorem dX5_movedBy_34 : decode cX5_movedBy 34 = .ok (.iconst 1, 1) := by decide +kernel
theorem dX5_movedBy_35 : decode cX5_movedBy 35 = .ok (.invokevirtual 122, 3) := by decide +kernel
theorem dX5_movedBy_38 : decode cX5_movedBy 38 = .ok (.if_icmp .ne 13, 3) := by decide +kernel
theorem dX5_movedBy_41 : decode cX5_movedBy 41 = .ok (.aload_n 0, 1) := by decide +kernel
theorem dX5_movedBy_42 : decode cX5_movedBy 42 = .ok (.getfield 29, 3) := by decide +kernel
theorem dX5_movedBy_45 : decode cX5_movedBy 45 = .ok (.iload_n 1, 1) := by decide +kernel
theorem dX5_movedBy_46 : decode cX5_movedBy 46 = .ok (.iconst 0, 1) := by decide +kernel
theorem dX5_movedBy_47 : decode cX5_movedBy 47 = .ok (.iastore, 1) := by decide +kernel
theorem dX5_movedBy_48 : decode cX5_movedBy 48 = .ok (.goto 19, 3) := by decide +kernel
theorem dX5_movedBy_51 : decode cX5_movedBy 51 = .ok (.aload_n 0, 1) := by decide +kernel
theorem dX5_movedBy_52 : decode cX5_movedBy 52 = .ok (.getfield 29, 3) := by decide +kernel
theorem dX5_movedBy_55 : decode cX5_movedBy 55 = .ok (.iload_n 1, 1) := by decide +kernel
theorem dX5_movedBy_56 : decode cX5_movedBy 56 = .ok (.iload_n 3, 1) := by decide +kernel
theorem dX5_movedBy_57 : decode cX5_movedBy 57 = .ok (.iconst 1, 1) := by decide +kernel
theorem dX5_movedBy_58 : decode cX5_movedBy 58 = .ok (.iadd, 1) := by decide +kernel
theorem dX5_movedBy_59 : decode cX5_movedBy 59 = .ok (.iastore, 1) := by decide +kernel
theorem dX5_movedBy_60 : decode cX5_movedBy 60 = .ok (.aload_n 0, 1) := by decide +kernel
theorem dX5_movedBy_61 : decode cX5_movedBy 61 = .ok (.iload_n 3, 1) := by decide +kernel
theorem dX5_movedBy_62 : decode cX5_movedBy 62 = .ok (.invokevirtual 133, 3) := by decide +kernel
theorem dX5_movedBy_65 : decode cX5_movedBy 65 = .ok (.istore 4, 2) := by decide +kernel
theorem dX5_movedBy_67 : decode cX5_movedBy 67 = .ok (.iload 4, 2) := by decide +kernel
theorem dX5_movedBy_69 : decode cX5_movedBy 69 = .ok (.ifCond .eq 10, 3) := by decide +kernel
theorem dX5_movedBy_72 : decode cX5_movedBy 72 = .ok (.aload_n 0, 1) := by decide +kernel
theorem dX5_movedBy_73 : decode cX5_movedBy 73 = .ok (.invokevirtual 183, 3) := by decide +kernel
theorem dX5_movedBy_76 : decode cX5_movedBy 76 = .ok (.goto 5, 3) := by decide +kernel
theorem dX5_movedBy_79 : decode cX5_movedBy 79 = .ok (.bipush (-4), 2) := by decide +kernel
theorem dX5_movedBy_81 : decode cX5_movedBy 81 = .ok (.istore 5, 2) := by decide +kernel
theorem dX5_movedBy_83 : decode cX5_movedBy 83 = .ok (.aload_n 0, 1) := by decide +kernel
theorem dX5_movedBy_84 : decode cX5_movedBy 84 = .ok (.getfield 29, 3) := by decide +kernel
theorem dX5_movedBy_87 : decode cX5_movedBy 87 = .ok (.iload_n 1, 1) := by decide +kernel
theorem dX5_movedBy_88 : decode cX5_movedBy 88 = .ok (.iload_n 2, 1) := by decide +kernel
theorem dX5_movedBy_89 : decode cX5_movedBy 89 = .ok (.iastore, 1) := by decide +kernel
theorem dX5_movedBy_90 : decode cX5_movedBy 90 = .ok (.iload 5, 2) := by decide +kernel
theorem dX5_movedBy_92 : decode cX5_movedBy 92 = .ok (.ireturn, 1) := by decide +kernel
theorem dX5_explore_0 : decode cX5_explore 0 = .ok (.iconst 0, 1) := by decide +kernel
theorem dX5_explore_1 : decode cX5_explore 1 = .ok (.istore_n 2, 1) := by decide +kernel
theorem dX5_explore_2 : decode cX5_explore 2 = .ok (.iload_n 2, 1) := by decide +kernel
theorem dX5_explore_3 : decode cX5_explore 3 = .ok (.sipush 2401, 3) := by decide +kernel
theorem dX5_explore_6 : decode cX5_explore 6 = .ok (.if_icmp .ge 23, 3) := by decide +kernel
theorem dX5_explore_9 : decode cX5_explore 9 = .ok (.aload_n 0, 1) := by decide +kernel
theorem dX5_explore_10 : decode cX5_explore 10 = .ok (.getfield 35, 3) := by decide +kernel
theorem dX5_explore_13 : decode cX5_explore 13 = .ok (.iload_n 2, 1) := by decide +kernel
theorem dX5_explore_14 : decode cX5_explore 14 = .ok (.iconst 0, 1) := by decide +kernel
theorem dX5_explore_15 : decode cX5_explore 15 = .ok (.bastore, 1) := by decide +kernel
theorem dX5_explore_16 : decode cX5_explore 16 = .ok (.aload_n 0, 1) := by decide +kernel
theorem dX5_explore_17 : decode cX5_explore 17 = .ok (.getfield 38, 3) := by decide +kernel
theorem dX5_explore_20 : decode cX5_explore 20 = .ok (.iload_n 2, 1) := by decide +kernel
theorem dX5_explore_21 : decode cX5_explore 21 = .ok (.iconst 0, 1) := by decide +kernel
theorem dX5_explore_22 : decode cX5_explore 22 = .ok (.bastore, 1) := by decide +kernel
theorem dX5_explore_23 : decode cX5_explore 23 = .ok (.iinc 2 1, 3) := by decide +kernel
theorem dX5_explore_26 : decode cX5_explore 26 = .ok (.goto (-24), 3) := by decide +kernel
theorem dX5_explore_29 : decode cX5_explore 29 = .ok (.aload_n 0, 1) := by decide +kernel
theorem dX5_explore_30 : decode cX5_explore 30 = .ok (.getfield 32, 3) := by decide +kernel
theorem dX5_explore_33 : decode cX5_explore 33 = .ok (.iconst 0, 1) := by decide +kernel
theorem dX5_explore_34 : decode cX5_explore 34 = .ok (.iload_n 1, 1) := by decide +kernel
theorem dX5_explore_35 : decode cX5_explore 35 = .ok (.iastore, 1) := by decide +kernel
theorem dX5_explore_36 : decode cX5_explore 36 = .ok (.aload_n 0, 1) := by decide +kernel
theorem dX5_explore_37 : decode cX5_explore 37 = .ok (.getfield 35, 3) := by decide +kernel
theorem dX5_explore_40 : decode cX5_explore 40 = .ok (.iload_n 1, 1) := by decide +kernel
theorem dX5_explore_41 : decode cX5_explore 41 = .ok (.iconst 1, 1) := by decide +kernel
theorem dX5_explore_42 : decode cX5_explore 42 = .ok (.bastore, 1) := by decide +kernel
theorem dX5_explore_43 : decode cX5_explore 43 = .ok (.aload_n 0, 1) := by decide +kernel
theorem dX5_explore_44 : decode cX5_explore 44 = .ok (.iconst 1, 1) := by decide +kernel
theorem dX5_explore_45 : decode cX5_explore 45 = .ok (.putfield 186, 3) := by decide +kernel
theorem dX5_explore_48 : decode cX5_explore 48 = .ok (.iconst 0, 1) := by decide +kernel
theorem dX5_explore_49 : decode cX5_explore 49 = .ok (.istore_n 2, 1) := by decide +kernel
theorem dX5_explore_50 : decode cX5_explore 50 = .ok (.iload_n 2, 1) := by decide +kernel
theorem dX5_explore_51 : decode cX5_explore 51 = .ok (.aload_n 0, 1) := by decide +kernel
theorem dX5_explore_52 : decode cX5_explore 52 = .ok (.getfield 186, 3) := by decide +kernel
theorem dX5_explore_55 : decode cX5_explore 55 = .ok (.if_icmp .ge 90, 3) := by decide +kernel
theorem dX5_explore_58 : decode cX5_explore 58 = .ok (.aload_n 0, 1) := by decide +kernel
theorem dX5_explore_59 : decode cX5_explore 59 = .ok (.aload_n 0, 1) := by decide +kernel
theorem dX5_explore_60 : decode cX5_explore 60 = .ok (.getfield 32, 3) := by decide +kernel
theorem dX5_explore_63 : decode cX5_explore 63 = .ok (.iload_n 2, 1) := by decide +kernel
theorem dX5_explore_64 : decode cX5_explore 64 = .ok (.iaload, 1) := by decide +kernel
theorem dX5_explore_65 : decode cX5_explore 65 = .ok (.invokevirtual 129, 3) := by decide +kernel
theorem dX5_explore_68 : decode cX5_explore 68 = .ok (.iconst 0, 1) := by decide +kernel
theorem dX5_explore_69 : decode cX5_explore 69 = .ok (.istore_n 3, 1) := by decide +kernel
theorem dX5_explore_70 : decode cX5_explore 70 = .ok (.iload_n 3, 1) := by decide +kernel
theorem dX5_explore_71 : decode cX5_explore 71 = .ok (.aload_n 0, 1) := by decide +kernel
theorem dX5_explore_72 : decode cX5_explore 72 = .ok (.getfield 7, 3) := by decide +kernel
theorem dX5_explore_75 : decode cX5_explore 75 = .ok (.iconst 1, 1) := by decide +kernel
theorem dX5_explore_76 : decode cX5_explore 76 = .ok (.iaload, 1) := by decide +kernel
theorem dX5_explore_77 : decode cX5_explore 77 = .ok (.if_icmp .ge 62, 3) := by decide +kernel
theorem dX5_explore_80 : decode cX5_explore 80 = .ok (.aload_n 0, 1) := by decide +kernel
theorem dX5_explore_81 : decode cX5_explore 81 = .ok (.iload_n 3, 1) := by decide +kernel
theorem dX5_explore_82 : decode cX5_explore 82 = .ok (.invokevirtual 189, 3) := by decide +kernel
theorem dX5_explore_85 : decode cX5_explore 85 = .ok (.istore 4, 2) := by decide +kernel
theorem dX5_explore_87 : decode cX5_explore 87 = .ok (.iload 4, 2) := by decide +kernel
theorem dX5_explore_89 : decode cX5_explore 89 = .ok (.bipush (-4), 2) := by decide +kernel
theorem dX5_explore_91 : decode cX5_explore 91 = .ok (.if_icmp .eq 42, 3) := by decide +kernel
theorem dX5_explore_94 : decode cX5_explore 94 = .ok (.aload_n 0, 1) := by decide +kernel
theorem dX5_explore_95 : decode cX5_explore 95 = .ok (.getfield 35, 3) := by decide +kernel
theorem dX5_explore_98 : decode cX5_explore 98 = .ok (.iload 4, 2) := by decide +kernel
theorem dX5_explore_100 : decode cX5_explore 100 = .ok (.baload, 1) := by decide +kernel
theorem dX5_explore_101 : decode cX5_explore 101 = .ok (.ifCond .ne 32, 3) := by decide +kernel
theorem dX5_explore_104 : decode cX5_explore 104 = .ok (.aload_n 0, 1) := by decide +kernel
theorem dX5_explore_105 : decode cX5_explore 105 = .ok (.getfield 35, 3) := by decide +kernel
theorem dX5_explore_108 : decode cX5_explore 108 = .ok (.iload 4, 2) := by decide +kernel
theorem dX5_explore_110 : decode cX5_explore 110 = .ok (.iconst 1, 1) := by decide +kernel
theorem dX5_explore_111 : decode cX5_explore 111 = .ok (.bastore, 1) := by decide +kernel
theorem dX5_explore_112 : decode cX5_explore 112 = .ok (.aload_n 0, 1) := by decide +kernel
theorem dX5_explore_113 : decode cX5_explore 113 = .ok (.getfield 32, 3) := by decide +kernel
theorem dX5_explore_116 : decode cX5_explore 116 = .ok (.aload_n 0, 1) := by decide +kernel
theorem dX5_explore_117 : decode cX5_explore 117 = .ok (.getfield 186, 3) := by decide +kernel
theorem dX5_explore_120 : decode cX5_explore 120 = .ok (.iload 4, 2) := by decide +kernel
theorem dX5_explore_122 : decode cX5_explore 122 = .ok (.iastore, 1) := by decide +kernel
theorem dX5_explore_123 : decode cX5_explore 123 = .ok (.aload_n 0, 1) := by decide +kernel
theorem dX5_explore_124 : decode cX5_explore 124 = .ok (.dup, 1) := by decide +kernel
theorem dX5_explore_125 : decode cX5_explore 125 = .ok (.getfield 186, 3) := by decide +kernel
theorem dX5_explore_128 : decode cX5_explore 128 = .ok (.iconst 1, 1) := by decide +kernel
theorem dX5_explore_129 : decode cX5_explore 129 = .ok (.iadd, 1) := by decide +kernel
theorem dX5_explore_130 : decode cX5_explore 130 = .ok (.putfield 186, 3) := by decide +kernel
theorem dX5_explore_133 : decode cX5_explore 133 = .ok (.iinc 3 1, 3) := by decide +kernel
theorem dX5_explore_136 : decode cX5_explore 136 = .ok (.goto (-66), 3) := by decide +kernel
theorem dX5_explore_139 : decode cX5_explore 139 = .ok (.iinc 2 1, 3) := by decide +kernel
theorem dX5_explore_142 : decode cX5_explore 142 = .ok (.goto (-92), 3) := by decide +kernel
theorem dX5_explore_145 : decode cX5_explore 145 = .ok (.aload_n 0, 1) := by decide +kernel
theorem dX5_explore_146 : decode cX5_explore 146 = .ok (.getfield 186, 3) := by decide +kernel
theorem dX5_explore_149 : decode cX5_explore 149 = .ok (.iconst 1, 1) := by decide +kernel
theorem dX5_explore_150 : decode cX5_explore 150 = .ok (.isub, 1) := by decide +kernel
theorem dX5_explore_151 : decode cX5_explore 151 = .ok (.istore_n 2, 1) := by decide +kernel
theorem dX5_explore_152 : decode cX5_explore 152 = .ok (.iload_n 2, 1) := by decide +kernel
theorem dX5_explore_153 : decode cX5_explore 153 = .ok (.ifCond .lt 101, 3) := by decide +kernel
theorem dX5_explore_156 : decode cX5_explore 156 = .ok (.aload_n 0, 1) := by decide +kernel
theorem dX5_explore_157 : decode cX5_explore 157 = .ok (.aload_n 0, 1) := by decide +kernel
theorem dX5_explore_158 : decode cX5_explore 158 = .ok (.getfield 32, 3) := by decide +kernel
theorem dX5_explore_161 : decode cX5_explore 161 = .ok (.iload_n 2, 1) := by decide +kernel
theorem dX5_explore_162 : decode cX5_explore 162 = .ok (.iaload, 1) := by decide +kernel
theorem dX5_explore_163 : decode cX5_explore 163 = .ok (.invokevirtual 129, 3) := by decide +kernel
theorem dX5_explore_166 : decode cX5_explore 166 = .ok (.aload_n 0, 1) := by decide +kernel
theorem dX5_explore_167 : decode cX5_explore 167 = .ok (.getfield 32, 3) := by decide +kernel
theorem dX5_explore_170 : decode cX5_explore 170 = .ok (.iload_n 2, 1) := by decide +kernel
theorem dX5_explore_171 : decode cX5_explore 171 = .ok (.iaload, 1) := by decide +kernel
theorem dX5_explore_172 : decode cX5_explore 172 = .ok (.ifCond .ne 7, 3) := by decide +kernel
theorem dX5_explore_175 : decode cX5_explore 175 = .ok (.iconst 1, 1) := by decide +kernel
theorem dX5_explore_176 : decode cX5_explore 176 = .ok (.goto 4, 3) := by decide +kernel
theorem dX5_explore_179 : decode cX5_explore 179 = .ok (.iconst 0, 1) := by decide +kernel
theorem dX5_explore_180 : decode cX5_explore 180 = .ok (.istore_n 3, 1) := by decide +kernel
theorem dX5_explore_181 : decode cX5_explore 181 = .ok (.iconst 0, 1) := by decide +kernel
theorem dX5_explore_182 : decode cX5_explore 182 = .ok (.istore 4, 2) := by decide +kernel
theorem dX5_explore_184 : decode cX5_explore 184 = .ok (.iload 4, 2) := by decide +kernel
theorem dX5_explore_186 : decode cX5_explore 186 = .ok (.aload_n 0, 1) := by decide +kernel
theorem dX5_explore_187 : decode cX5_explore 187 = .ok (.getfield 7, 3) := by decide +kernel
theorem dX5_explore_190 : decode cX5_explore 190 = .ok (.iconst 1, 1) := by decide +kernel
theorem dX5_explore_191 : decode cX5_explore 191 = .ok (.iaload, 1) := by decide +kernel
theorem dX5_explore_192 : decode cX5_explore 192 = .ok (.if_icmp .ge 44, 3) := by decide +kernel
theorem dX5_explore_195 : decode cX5_explore 195 = .ok (.aload_n 0, 1) := by decide +kernel
theorem dX5_explore_196 : decode cX5_explore 196 = .ok (.iload 4, 2) := by decide +kernel
theorem dX5_explore_198 : decode cX5_explore 198 = .ok (.invokevirtual 189, 3) := by decide +kernel
theorem dX5_explore_201 : decode cX5_explore 201 = .ok (.istore 5, 2) := by decide +kernel
theorem dX5_explore_203 : decode cX5_explore 203 = .ok (.iload_n 3, 1) := by decide +kernel
theorem dX5_explore_204 : decode cX5_explore 204 = .ok (.ifCond .ne 20, 3) := by decide +kernel
theorem dX5_explore_207 : decode cX5_explore 207 = .ok (.iload 5, 2) := by decide +kernel
theorem dX5_explore_209 : decode cX5_explore 209 = .ok (.bipush (-4), 2) := by decide +kernel
theorem dX5_explore_211 : decode cX5_explore 211 = .ok (.if_icmp .eq 17, 3) := by decide +kernel
theorem dX5_explore_214 : decode cX5_explore 214 = .ok (.aload_n 0, 1) := by decide +kernel
theorem dX5_explore_215 : decode cX5_explore 215 = .ok (.getfield 38, 3) := by decide +kernel
theorem dX5_explore_218 : decode cX5_explore 218 = .ok (.iload 5, 2) := by decide +kernel
theorem dX5_explore_220 : decode cX5_explore 220 = .ok (.baload, 1) := by decide +kernel
theorem dX5_explore_221 : decode cX5_explore 221 = .ok (.ifCond .eq 7, 3) := by decide +kernel
theorem dX5_explore_224 : decode cX5_explore 224 = .ok (.iconst 1, 1) := by decide +kernel
theorem dX5_explore_225 : decode cX5_explore 225 = .ok (.goto 4, 3) := by decide +kernel
theorem dX5_explore_228 : decode cX5_explore 228 = .ok (.iconst 0, 1) := by decide +kernel
theorem dX5_explore_229 : decode cX5_explore 229 = .ok (.istore_n 3, 1) := by decide +kernel
theorem dX5_explore_230 : decode cX5_explore 230 = .ok (.iinc 4 1, 3) := by decide +kernel
theorem dX5_explore_233 : decode cX5_explore 233 = .ok (.goto (-49), 3) := by decide +kernel
theorem dX5_explore_236 : decode cX5_explore 236 = .ok (.aload_n 0, 1) := by decide +kernel
theorem dX5_explore_237 : decode cX5_explore 237 = .ok (.getfield 38, 3) := by decide +kernel
theorem dX5_explore_240 : decode cX5_explore 240 = .ok (.aload_n 0, 1) := by decide +kernel
theorem dX5_explore_241 : decode cX5_explore 241 = .ok (.getfield 32, 3) := by decide +kernel
theorem dX5_explore_244 : decode cX5_explore 244 = .ok (.iload_n 2, 1) := by decide +kernel
theorem dX5_explore_245 : decode cX5_explore 245 = .ok (.iaload, 1) := by decide +kernel
theorem dX5_explore_246 : decode cX5_explore 246 = .ok (.iload_n 3, 1) := by decide +kernel
theorem dX5_explore_247 : decode cX5_explore 247 = .ok (.bastore, 1) := by decide +kernel
theorem dX5_explore_248 : decode cX5_explore 248 = .ok (.iinc 2 (-1), 3) := by decide +kernel
theorem dX5_explore_251 : decode cX5_explore 251 = .ok (.goto (-99), 3) := by decide +kernel
theorem dX5_explore_254 : decode cX5_explore 254 = .ok (.return_, 1) := by decide +kernel
theorem dX5_goesAlone_0 : decode cX5_goesAlone 0 = .ok (.aload_n 0, 1) := by decide +kernel
theorem dX5_goesAlone_1 : decode cX5_goesAlone 1 = .ok (.getfield 29, 3) := by decide +kernel
theorem dX5_goesAlone_4 : decode cX5_goesAlone 4 = .ok (.iload_n 1, 1) := by decide +kernel
theorem dX5_goesAlone_5 : decode cX5_goesAlone 5 = .ok (.iaload, 1) := by decide +kernel
theorem dX5_goesAlone_6 : decode cX5_goesAlone 6 = .ok (.istore_n 2, 1) := by decide +kernel
theorem dX5_goesAlone_7 : decode cX5_goesAlone 7 = .ok (.iconst 0, 1) := by decide +kernel
theorem dX5_goesAlone_8 : decode cX5_goesAlone 8 = .ok (.istore_n 3, 1) := by decide +kernel
theorem dX5_goesAlone_9 : decode cX5_goesAlone 9 = .ok (.iconst 0, 1) := by decide +kernel
theorem dX5_goesAlone_10 : decode cX5_goesAlone 10 = .ok (.istore 4, 2) := by decide +kernel
theorem dX5_goesAlone_12 : decode cX5_goesAlone 12 = .ok (.iload 4, 2) := by decide +kernel
theorem dX5_goesAlone_14 : decode cX5_goesAlone 14 = .ok (.bipush 6, 2) := by decide +kernel
theorem dX5_goesAlone_16 : decode cX5_goesAlone 16 = .ok (.if_icmp .ge 60, 3) := by decide +kernel
theorem dX5_goesAlone_19 : decode cX5_goesAlone 19 = .ok (.aload_n 0, 1) := by decide +kernel
theorem dX5_goesAlone_20 : decode cX5_goesAlone 20 = .ok (.getfield 29, 3) := by decide +kernel
theorem dX5_goesAlone_23 : decode cX5_goesAlone 23 = .ok (.iload_n 1, 1) := by decide +kernel
theorem dX5_goesAlone_24 : decode cX5_goesAlone 24 = .ok (.iaload, 1) := by decide +kernel
theorem dX5_goesAlone_25 : decode cX5_goesAlone 25 = .ok (.ifCond .le 51, 3) := by decide +kernel
theorem dX5_goesAlone_28 : decode cX5_goesAlone 28 = .ok (.iload_n 3, 1) := by decide +kernel
theorem dX5_goesAlone_29 : decode cX5_goesAlone 29 = .ok (.bipush (-4), 2) := by decide +kernel
theorem dX5_goesAlone_31 : decode cX5_goesAlone 31 = .ok (.if_icmp .eq 45, 3) := by decide +kernel
theorem dX5_goesAlone_34 : decode cX5_goesAlone 34 = .ok (.aload_n 0, 1) := by decide +kernel
theorem dX5_goesAlone_35 : decode cX5_goesAlone 35 = .ok (.iload_n 1, 1) := by decide +kernel
theorem dX5_goesAlone_36 : decode cX5_goesAlone 36 = .ok (.invokevirtual 189, 3) := by decide +kernel
theorem dX5_goesAlone_39 : decode cX5_goesAlone 39 = .ok (.istore_n 3, 1) := by decide +kernel
theorem dX5_goesAlone_40 : decode cX5_goesAlone 40 = .ok (.aload_n 0, 1) := by decide +kernel
theorem dX5_goesAlone_41 : decode cX5_goesAlone 41 = .ok (.getfield 29, 3) := by decide +kernel
theorem dX5_goesAlone_44 : decode cX5_goesAlone 44 = .ok (.iload_n 1, 1) := by decide +kernel
theorem dX5_goesAlone_45 : decode cX5_goesAlone 45 = .ok (.iload_n 3, 1) := by decide +kernel
theorem dX5_goesAlone_46 : decode cX5_goesAlone 46 = .ok (.bipush (-4), 2) := by decide +kernel
theorem dX5_goesAlone_48 : decode cX5_goesAlone 48 = .ok (.if_icmp .ne 12, 3) := by decide +kernel
theorem dX5_goesAlone_51 : decode cX5_goesAlone 51 = .ok (.aload_n 0, 1) := by decide +kernel
theorem dX5_goesAlone_52 : decode cX5_goesAlone 52 = .ok (.getfield 29, 3) := by decide +kernel
theorem dX5_goesAlone_55 : decode cX5_goesAlone 55 = .ok (.iload_n 1, 1) := by decide +kernel
theorem dX5_goesAlone_56 : decode cX5_goesAlone 56 = .ok (.iaload, 1) := by decide +kernel
theorem dX5_goesAlone_57 : decode cX5_goesAlone 57 = .ok (.goto 12, 3) := by decide +kernel
theorem dX5_goesAlone_60 : decode cX5_goesAlone 60 = .ok (.iload_n 3, 1) := by decide +kernel
theorem dX5_goesAlone_61 : decode cX5_goesAlone 61 = .ok (.iload_n 1, 1) := by decide +kernel
theorem dX5_goesAlone_62 : decode cX5_goesAlone 62 = .ok (.invokestatic 174, 3) := by decide +kernel
theorem dX5_goesAlone_65 : decode cX5_goesAlone 65 = .ok (.idiv, 1) := by decide +kernel
theorem dX5_goesAlone_66 : decode cX5_goesAlone 66 = .ok (.bipush 7, 2) := by decide +kernel
theorem dX5_goesAlone_68 : decode cX5_goesAlone 68 = .ok (.irem, 1) := by decide +kernel
theorem dX5_goesAlone_69 : decode cX5_goesAlone 69 = .ok (.iastore, 1) := by decide +kernel
theorem dX5_goesAlone_70 : decode cX5_goesAlone 70 = .ok (.iinc 4 1, 3) := by decide +kernel
theorem dX5_goesAlone_73 : decode cX5_goesAlone 73 = .ok (.goto (-61), 3) := by decide +kernel
theorem dX5_goesAlone_76 : decode cX5_goesAlone 76 = .ok (.aload_n 0, 1) := by decide +kernel
theorem dX5_goesAlone_77 : decode cX5_goesAlone 77 = .ok (.getfield 29, 3) := by decide +kernel
theorem dX5_goesAlone_80 : decode cX5_goesAlone 80 = .ok (.iload_n 1, 1) := by decide +kernel
theorem dX5_goesAlone_81 : decode cX5_goesAlone 81 = .ok (.iaload, 1) := by decide +kernel
theorem dX5_goesAlone_82 : decode cX5_goesAlone 82 = .ok (.ifCond .ne 7, 3) := by decide +kernel
theorem dX5_goesAlone_85 : decode cX5_goesAlone 85 = .ok (.iconst 1, 1) := by decide +kernel
theorem dX5_goesAlone_86 : decode cX5_goesAlone 86 = .ok (.goto 4, 3) := by decide +kernel
theorem dX5_goesAlone_89 : decode cX5_goesAlone 89 = .ok (.iconst 0, 1) := by decide +kernel
theorem dX5_goesAlone_90 : decode cX5_goesAlone 90 = .ok (.istore 4, 2) := by decide +kernel
theorem dX5_goesAlone_92 : decode cX5_goesAlone 92 = .ok (.aload_n 0, 1) := by decide +kernel
theorem dX5_goesAlone_93 : decode cX5_goesAlone 93 = .ok (.getfield 29, 3) := by decide +kernel
theorem dX5_goesAlone_96 : decode cX5_goesAlone 96 = .ok (.iload_n 1, 1) := by decide +kernel
theorem dX5_goesAlone_97 : decode cX5_goesAlone 97 = .ok (.iload 4, 2) := by decide +kernel
theorem dX5_goesAlone_99 : decode cX5_goesAlone 99 = .ok (.ifCond .eq 7, 3) := by decide +kernel
theorem dX5_goesAlone_102 : decode cX5_goesAlone 102 = .ok (.iconst 0, 1) := by decide +kernel
theorem dX5_goesAlone_103 : decode cX5_goesAlone 103 = .ok (.goto 4, 3) := by decide +kernel
theorem dX5_goesAlone_106 : decode cX5_goesAlone 106 = .ok (.iload_n 2, 1) := by decide +kernel
theorem dX5_goesAlone_107 : decode cX5_goesAlone 107 = .ok (.iastore, 1) := by decide +kernel
theorem dX5_goesAlone_108 : decode cX5_goesAlone 108 = .ok (.iload 4, 2) := by decide +kernel
theorem dX5_goesAlone_110 : decode cX5_goesAlone 110 = .ok (.ireturn, 1) := by decide +kernel
theorem dX5_findSequence_0 : decode cX5_findSequence 0 = .ok (.aload_n 0, 1) := by decide +kernel
theorem dX5_findSequence_1 : decode cX5_findSequence 1 = .ok (.aload_n 0, 1) := by decide +kernel
theorem dX5_findSequence_2 : decode cX5_findSequence 2 = .ok (.invokevirtual 126, 3) := by decide +kernel
theorem dX5_findSequence_5 : decode cX5_findSequence 5 = .ok (.invokevirtual 129, 3) := by decide +kernel
theorem dX5_findSequence_8 : decode cX5_findSequence 8 = .ok (.aload_n 0, 1) := by decide +kernel
theorem dX5_findSequence_9 : decode cX5_findSequence 9 = .ok (.iconst 0, 1) := by decide +kernel
theorem dX5_findSequence_10 : decode cX5_findSequence 10 = .ok (.putfield 192, 3) := by decide +kernel
theorem dX5_findSequence_13 : decode cX5_findSequence 13 = .ok (.iconst 1, 1) := by decide +kernel
theorem dX5_findSequence_14 : decode cX5_findSequence 14 = .ok (.istore_n 1, 1) := by decide +kernel
theorem dX5_findSequence_15 : decode cX5_findSequence 15 = .ok (.iload_n 1, 1) := by decide +kernel
theorem dX5_findSequence_16 : decode cX5_findSequence 16 = .ok (.ifCond .eq 69, 3) := by decide +kernel
theorem dX5_findSequence_19 : decode cX5_findSequence 19 = .ok (.iconst 0, 1) := by decide +kernel
theorem dX5_findSequence_20 : decode cX5_findSequence 20 = .ok (.istore_n 1, 1) := by decide +kernel
theorem dX5_findSequence_21 : decode cX5_findSequence 21 = .ok (.iconst 0, 1) := by decide +kernel
theorem dX5_findSequence_22 : decode cX5_findSequence 22 = .ok (.istore_n 2, 1) := by decide +kernel
theorem dX5_findSequence_23 : decode cX5_findSequence 23 = .ok (.iload_n 2, 1) := by decide +kernel
theorem dX5_findSequence_24 : decode cX5_findSequence 24 = .ok (.aload_n 0, 1) := by decide +kernel
theorem dX5_findSequence_25 : decode cX5_findSequence 25 = .ok (.getfield 7, 3) := by decide +kernel
theorem dX5_findSequence_28 : decode cX5_findSequence 28 = .ok (.iconst 1, 1) := by decide +kernel
theorem dX5_findSequence_29 : decode cX5_findSequence 29 = .ok (.iaload, 1) := by decide +kernel
theorem dX5_findSequence_30 : decode cX5_findSequence 30 = .ok (.if_icmp .ge 52, 3) := by decide +kernel
theorem dX5_findSequence_33 : decode cX5_findSequence 33 = .ok (.iload_n 1, 1) := by decide +kernel
theorem dX5_findSequence_34 : decode cX5_findSequence 34 = .ok (.ifCond .ne 48, 3) := by decide +kernel
theorem dX5_findSequence_37 : decode cX5_findSequence 37 = .ok (.aload_n 0, 1) := by decide +kernel
theorem dX5_findSequence_38 : decode cX5_findSequence 38 = .ok (.getfield 29, 3) := by decide +kernel
theorem dX5_findSequence_41 : decode cX5_findSequence 41 = .ok (.iload_n 2, 1) := by decide +kernel
theorem dX5_findSequence_42 : decode cX5_findSequence 42 = .ok (.iaload, 1) := by decide +kernel
theorem dX5_findSequence_43 : decode cX5_findSequence 43 = .ok (.ifCond .le 33, 3) := by decide +kernel
theorem dX5_findSequence_46 : decode cX5_findSequence 46 = .ok (.aload_n 0, 1) := by decide +kernel
theorem dX5_findSequence_47 : decode cX5_findSequence 47 = .ok (.iload_n 2, 1) := by decide +kernel
theorem dX5_findSequence_48 : decode cX5_findSequence 48 = .ok (.invokevirtual 195, 3) := by decide +kernel
theorem dX5_findSequence_51 : decode cX5_findSequence 51 = .ok (.ifCond .eq 25, 3) := by decide +kernel
theorem dX5_findSequence_54 : decode cX5_findSequence 54 = .ok (.aload_n 0, 1) := by decide +kernel
theorem dX5_findSequence_55 : decode cX5_findSequence 55 = .ok (.getfield 41, 3) := by decide +kernel
theorem dX5_findSequence_58 : decode cX5_findSequence 58 = .ok (.aload_n 0, 1) := by decide +kernel
theorem dX5_findSequence_59 : decode cX5_findSequence 59 = .ok (.getfield 192, 3) := by decide +kernel
theorem dX5_findSequence_62 : decode cX5_findSequence 62 = .ok (.iload_n 2, 1) := by decide +kernel
theorem dX5_findSequence_63 : decode cX5_findSequence 63 = .ok (.iastore, 1) := by decide +kernel
theorem dX5_findSequence_64 : decode cX5_findSequence 64 = .ok (.aload_n 0, 1) := by decide +kernel
theorem dX5_findSequence_65 : decode cX5_findSequence 65 = .ok (.dup, 1) := by decide +kernel
theorem dX5_findSequence_66 : decode cX5_findSequence 66 = .ok (.getfield 192, 3) := by decide +kernel
theorem dX5_findSequence_69 : decode cX5_findSequence 69 = .ok (.iconst 1, 1) := by decide +kernel
theorem dX5_findSequence_70 : decode cX5_findSequence 70 = .ok (.iadd, 1) := by decide +kernel
theorem dX5_findSequence_71 : decode cX5_findSequence 71 = .ok (.putfield 192, 3) := by decide +kernel
theorem dX5_findSequence_74 : decode cX5_findSequence 74 = .ok (.iconst 1, 1) := by decide +kernel
theorem dX5_findSequence_75 : decode cX5_findSequence 75 = .ok (.istore_n 1, 1) := by decide +kernel
theorem dX5_findSequence_76 : decode cX5_findSequence 76 = .ok (.iinc 2 1, 3) := by decide +kernel
theorem dX5_findSequence_79 : decode cX5_findSequence 79 = .ok (.goto (-56), 3) := by decide +kernel
theorem dX5_findSequence_82 : decode cX5_findSequence 82 = .ok (.goto (-67), 3) := by decide +kernel
theorem dX5_findSequence_85 : decode cX5_findSequence 85 = .ok (.return_, 1) := by decide +kernel
theorem dX5_isPlain_0 : decode cX5_isPlain 0 = .ok (.aload_n 0, 1) := by decide +kernel
theorem dX5_isPlain_1 : decode cX5_isPlain 1 = .ok (.invokevirtual 198, 3) := by decide +kernel
theorem dX5_isPlain_4 : decode cX5_isPlain 4 = .ok (.aload_n 0, 1) := by decide +kernel
theorem dX5_isPlain_5 : decode cX5_isPlain 5 = .ok (.invokevirtual 183, 3) := by decide +kernel
theorem dX5_isPlain_8 : decode cX5_isPlain 8 = .ok (.ifCond .ne 7, 3) := by decide +kernel
theorem dX5_isPlain_11 : decode cX5_isPlain 11 = .ok (.iconst 1, 1) := by decide +kernel
theorem dX5_isPlain_12 : decode cX5_isPlain 12 = .ok (.goto 4, 3) := by decide +kernel
theorem dX5_isPlain_15 : decode cX5_isPlain 15 = .ok (.iconst 0, 1) := by decide +kernel
theorem dX5_isPlain_16 : decode cX5_isPlain 16 = .ok (.ireturn, 1) := by decide +kernel
theorem dX5_leftBy_0 : decode cX5_leftBy 0 = .ok (.aload_n 0, 1) := by decide +kernel
theorem dX5_leftBy_1 : decode cX5_leftBy 1 = .ok (.iload_n 1, 1) := by decide +kernel
theorem dX5_leftBy_2 : decode cX5_leftBy 2 = .ok (.iconst 1, 1) := by decide +kernel
theorem dX5_leftBy_3 : decode cX5_leftBy 3 = .ok (.invokevirtual 122, 3) := by decide +kernel
theorem dX5_leftBy_6 : decode cX5_leftBy 6 = .ok (.aload_n 0, 1) := by decide +kernel
theorem dX5_leftBy_7 : decode cX5_leftBy 7 = .ok (.iload_n 1, 1) := by decide +kernel
theorem dX5_leftBy_8 : decode cX5_leftBy 8 = .ok (.iconst 0, 1) := by decide +kernel
theorem dX5_leftBy_9 : decode cX5_leftBy 9 = .ok (.invokevirtual 122, 3) := by decide +kernel
theorem dX5_leftBy_12 : decode cX5_leftBy 12 = .ok (.if_icmp .le 14, 3) := by decide +kernel
theorem dX5_leftBy_15 : decode cX5_leftBy 15 = .ok (.aload_n 0, 1) := by decide +kernel
theorem dX5_leftBy_16 : decode cX5_leftBy 16 = .ok (.iload_n 1, 1) := by decide +kernel
theorem dX5_leftBy_17 : decode cX5_leftBy 17 = .ok (.iconst 3, 1) := by decide +kernel
theorem dX5_leftBy_18 : decode cX5_leftBy 18 = .ok (.invokevirtual 122, 3) := by decide +kernel
theorem dX5_leftBy_21 : decode cX5_leftBy 21 = .ok (.iconst 1, 1) := by decide +kernel
theorem dX5_leftBy_22 : decode cX5_leftBy 22 = .ok (.isub, 1) := by decide +kernel
theorem dX5_leftBy_23 : decode cX5_leftBy 23 = .ok (.goto 11, 3) := by decide +kernel
theorem dX5_leftBy_26 : decode cX5_leftBy 26 = .ok (.aload_n 0, 1) := by decide +kernel
theorem dX5_leftBy_27 : decode cX5_leftBy 27 = .ok (.iload_n 1, 1) := by decide +kernel
theorem dX5_leftBy_28 : decode cX5_leftBy 28 = .ok (.iconst 3, 1) := by decide +kernel
theorem dX5_leftBy_29 : decode cX5_leftBy 29 = .ok (.invokevirtual 122, 3) := by decide +kernel
theorem dX5_leftBy_32 : decode cX5_leftBy 32 = .ok (.iconst 1, 1) := by decide +kernel
theorem dX5_leftBy_33 : decode cX5_leftBy 33 = .ok (.iadd, 1) := by decide +kernel
theorem dX5_leftBy_34 : decode cX5_leftBy 34 = .ok (.ireturn, 1) := by decide +kernel
theorem dX5_runsBetween_0 : decode cX5_runsBetween 0 = .ok (.iconst 0, 1) := by decide +kernel
theorem dX5_runsBetween_1 : decode cX5_runsBetween 1 = .ok (.istore_n 3, 1) := by decide +kernel
theorem dX5_runsBetween_2 : decode cX5_runsBetween 2 = .ok (.iload_n 3, 1) := by decide +kernel
theorem dX5_runsBetween_3 : decode cX5_runsBetween 3 = .ok (.aload_n 0, 1) := by decide +kernel
theorem dX5_runsBetween_4 : decode cX5_runsBetween 4 = .ok (.getfield 7, 3) := by decide +kernel
theorem dX5_runsBetween_7 : decode cX5_runsBetween 7 = .ok (.iconst 1, 1) := by decide +kernel
theorem dX5_runsBetween_8 : decode cX5_runsBetween 8 = .ok (.iaload, 1) := by decide +kernel
theorem dX5_runsBetween_9 : decode cX5_runsBetween 9 = .ok (.if_icmp .ge 60, 3) := by decide +kernel
theorem dX5_runsBetween_12 : decode cX5_runsBetween 12 = .ok (.aload_n 0, 1) := by decide +kernel
theorem dX5_runsBetween_13 : decode cX5_runsBetween 13 = .ok (.iload_n 3, 1) := by decide +kernel
theorem dX5_runsBetween_14 : decode cX5_runsBetween 14 = .ok (.iconst 4, 1) := by decide +kernel
theorem dX5_runsBetween_15 : decode cX5_runsBetween 15 = .ok (.invokevirtual 122, 3) := by decide +kernel
theorem dX5_runsBetween_18 : decode cX5_runsBetween 18 = .ok (.iconst 1, 1) := by decide +kernel
theorem dX5_runsBetween_19 : decode cX5_runsBetween 19 = .ok (.if_icmp .ne 44, 3) := by decide +kernel
theorem dX5_runsBetween_22 : decode cX5_runsBetween 22 = .ok (.aload_n 0, 1) := by decide +kernel
theorem dX5_runsBetween_23 : decode cX5_runsBetween 23 = .ok (.iload_n 3, 1) := by decide +kernel
theorem dX5_runsBetween_24 : decode cX5_runsBetween 24 = .ok (.invokevirtual 201, 3) := by decide +kernel
theorem dX5_runsBetween_27 : decode cX5_runsBetween 27 = .ok (.istore 4, 2) := by decide +kernel
theorem dX5_runsBetween_29 : decode cX5_runsBetween 29 = .ok (.iload 4, 2) := by decide +kernel
theorem dX5_runsBetween_31 : decode cX5_runsBetween 31 = .ok (.iload_n 1, 1) := by decide +kernel
theorem dX5_runsBetween_32 : decode cX5_runsBetween 32 = .ok (.if_icmp .ne 13, 3) := by decide +kernel
theorem dX5_runsBetween_35 : decode cX5_runsBetween 35 = .ok (.aload_n 0, 1) := by decide +kernel
theorem dX5_runsBetween_36 : decode cX5_runsBetween 36 = .ok (.iload_n 3, 1) := by decide +kernel
theorem dX5_runsBetween_37 : decode cX5_runsBetween 37 = .ok (.iconst 3, 1) := by decide +kernel
theorem dX5_runsBetween_38 : decode cX5_runsBetween 38 = .ok (.invokevirtual 122, 3) := by decide +kernel
theorem dX5_runsBetween_41 : decode cX5_runsBetween 41 = .ok (.iload_n 2, 1) := by decide +kernel
theorem dX5_runsBetween_42 : decode cX5_runsBetween 42 = .ok (.if_icmp .eq 19, 3) := by decide +kernel
theorem dX5_runsBetween_45 : decode cX5_runsBetween 45 = .ok (.iload 4, 2) := by decide +kernel
theorem dX5_runsBetween_47 : decode cX5_runsBetween 47 = .ok (.iload_n 2, 1) := by decide +kernel
theorem dX5_runsBetween_48 : decode cX5_runsBetween 48 = .ok (.if_icmp .ne 15, 3) := by decide +kernel
theorem dX5_runsBetween_51 : decode cX5_runsBetween 51 = .ok (.aload_n 0, 1) := by decide +kernel
theorem dX5_runsBetween_52 : decode cX5_runsBetween 52 = .ok (.iload_n 3, 1) := by decide +kernel
theorem dX5_runsBetween_53 : decode cX5_runsBetween 53 = .ok (.iconst 3, 1) := by decide +kernel
theorem dX5_runsBetween_54 : decode cX5_runsBetween 54 = .ok (.invokevirtual 122, 3) := by decide +kernel
theorem dX5_runsBetween_57 : decode cX5_runsBetween 57 = .ok (.iload_n 1, 1) := by decide +kernel
theorem dX5_runsBetween_58 : decode cX5_runsBetween 58 = .ok (.if_icmp .ne 5, 3) := by decide +kernel
theorem dX5_runsBetween_61 : decode cX5_runsBetween 61 = .ok (.iload_n 3, 1) := by decide +kernel
theorem dX5_runsBetween_62 : decode cX5_runsBetween 62 = .ok (.ireturn, 1) := by decide +kernel
theorem dX5_runsBetween_63 : decode cX5_runsBetween 63 = .ok (.iinc 3 1, 3) := by decide +kernel
theorem dX5_runsBetween_66 : decode cX5_runsBetween 66 = .ok (.goto (-64), 3) := by decide +kernel
theorem dX5_runsBetween_69 : decode cX5_runsBetween 69 = .ok (.bipush (-4), 2) := by decide +kernel
theorem dX5_runsBetween_71 : decode cX5_runsBetween 71 = .ok (.ireturn, 1) := by decide +kernel
theorem dX5_against_0 : decode cX5_against 0 = .ok (.aload_n 0, 1) := by decide +kernel
theorem dX5_against_1 : decode cX5_against 1 = .ok (.iload_n 1, 1) := by decide +kernel
theorem dX5_against_2 : decode cX5_against 2 = .ok (.iconst 4, 1) := by decide +kernel
theorem dX5_against_3 : decode cX5_against 3 = .ok (.invokevirtual 122, 3) := by decide +kernel
theorem dX5_against_6 : decode cX5_against 6 = .ok (.ifCond .eq 19, 3) := by decide +kernel
theorem dX5_against_9 : decode cX5_against 9 = .ok (.aload_n 0, 1) := by decide +kernel
theorem dX5_against_10 : decode cX5_against 10 = .ok (.iload_n 1, 1) := by decide +kernel
theorem dX5_against_11 : decode cX5_against 11 = .ok (.iconst 4, 1) := by decide +kernel
theorem dX5_against_12 : decode cX5_against 12 = .ok (.invokevirtual 122, 3) := by decide +kernel
theorem dX5_against_15 : decode cX5_against 15 = .ok (.iconst 2, 1) := by decide +kernel
theorem dX5_against_16 : decode cX5_against 16 = .ok (.if_icmp .ne 7, 3) := by decide +kernel
theorem dX5_against_19 : decode cX5_against 19 = .ok (.iconst 1, 1) := by decide +kernel
theorem dX5_against_20 : decode cX5_against 20 = .ok (.goto 4, 3) := by decide +kernel
theorem dX5_against_23 : decode cX5_against 23 = .ok (.iconst 2, 1) := by decide +kernel
theorem dX5_against_24 : decode cX5_against 24 = .ok (.ireturn, 1) := by decide +kernel
theorem dX5_against_25 : decode cX5_against 25 = .ok (.aload_n 0, 1) := by decide +kernel
theorem dX5_against_26 : decode cX5_against 26 = .ok (.iload_n 1, 1) := by decide +kernel
theorem dX5_against_27 : decode cX5_against 27 = .ok (.iconst 3, 1) := by decide +kernel
theorem dX5_against_28 : decode cX5_against 28 = .ok (.invokevirtual 122, 3) := by decide +kernel
theorem dX5_against_31 : decode cX5_against 31 = .ok (.istore_n 2, 1) := by decide +kernel
theorem dX5_against_32 : decode cX5_against 32 = .ok (.aload_n 0, 1) := by decide +kernel
theorem dX5_against_33 : decode cX5_against 33 = .ok (.iload_n 2, 1) := by decide +kernel
theorem dX5_against_34 : decode cX5_against 34 = .ok (.aload_n 0, 1) := by decide +kernel
theorem dX5_against_35 : decode cX5_against 35 = .ok (.iload_n 1, 1) := by decide +kernel
theorem dX5_against_36 : decode cX5_against 36 = .ok (.iload_n 2, 1) := by decide +kernel
theorem dX5_against_37 : decode cX5_against 37 = .ok (.invokevirtual 161, 3) := by decide +kernel
theorem dX5_against_40 : decode cX5_against 40 = .ok (.invokevirtual 204, 3) := by decide +kernel
theorem dX5_against_43 : decode cX5_against 43 = .ok (.bipush (-4), 2) := by decide +kernel
theorem dX5_against_45 : decode cX5_against 45 = .ok (.if_icmp .eq 5, 3) := by decide +kernel
theorem dX5_against_48 : decode cX5_against 48 = .ok (.iconst 3, 1) := by decide +kernel
theorem dX5_against_49 : decode cX5_against 49 = .ok (.ireturn, 1) := by decide +kernel
theorem dX5_against_50 : decode cX5_against 50 = .ok (.aload_n 0, 1) := by decide +kernel
theorem dX5_against_51 : decode cX5_against 51 = .ok (.aload_n 0, 1) := by decide +kernel
theorem dX5_against_52 : decode cX5_against 52 = .ok (.invokevirtual 126, 3) := by decide +kernel
theorem dX5_against_55 : decode cX5_against 55 = .ok (.invokevirtual 129, 3) := by decide +kernel
theorem dX5_against_58 : decode cX5_against 58 = .ok (.aload_n 0, 1) := by decide +kernel
theorem dX5_against_59 : decode cX5_against 59 = .ok (.iload_n 1, 1) := by decide +kernel
theorem dX5_against_60 : decode cX5_against 60 = .ok (.invokevirtual 189, 3) := by decide +kernel
theorem dX5_against_63 : decode cX5_against 63 = .ok (.istore_n 3, 1) := by decide +kernel
theorem dX5_against_64 : decode cX5_against 64 = .ok (.iload_n 3, 1) := by decide +kernel
theorem dX5_against_65 : decode cX5_against 65 = .ok (.bipush (-4), 2) := by decide +kernel
theorem dX5_against_67 : decode cX5_against 67 = .ok (.if_icmp .ne 7, 3) := by decide +kernel
theorem dX5_against_70 : decode cX5_against 70 = .ok (.iconst 4, 1) := by decide +kernel
theorem dX5_against_71 : decode cX5_against 71 = .ok (.goto 17, 3) := by decide +kernel
theorem dX5_against_74 : decode cX5_against 74 = .ok (.aload_n 0, 1) := by decide +kernel
theorem dX5_against_75 : decode cX5_against 75 = .ok (.getfield 38, 3) := by decide +kernel
theorem dX5_against_78 : decode cX5_against 78 = .ok (.iload_n 3, 1) := by decide +kernel
theorem dX5_against_79 : decode cX5_against 79 = .ok (.baload, 1) := by decide +kernel
theorem dX5_against_80 : decode cX5_against 80 = .ok (.ifCond .eq 7, 3) := by decide +kernel
theorem dX5_against_83 : decode cX5_against 83 = .ok (.iconst 0, 1) := by decide +kernel
theorem dX5_against_84 : decode cX5_against 84 = .ok (.goto 4, 3) := by decide +kernel
theorem dX5_against_87 : decode cX5_against 87 = .ok (.iconst 5, 1) := by decide +kernel
theorem dX5_against_88 : decode cX5_against 88 = .ok (.ireturn, 1) := by decide +kernel
theorem dX5_canGo_0 : decode cX5_canGo 0 = .ok (.aload_n 0, 1) := by decide +kernel
theorem dX5_canGo_1 : decode cX5_canGo 1 = .ok (.aload_n 0, 1) := by decide +kernel
theorem dX5_canGo_2 : decode cX5_canGo 2 = .ok (.invokevirtual 126, 3) := by decide +kernel
theorem dX5_canGo_5 : decode cX5_canGo 5 = .ok (.invokevirtual 136, 3) := by decide +kernel
theorem dX5_canGo_8 : decode cX5_canGo 8 = .ok (.iconst 0, 1) := by decide +kernel
theorem dX5_canGo_9 : decode cX5_canGo 9 = .ok (.istore_n 1, 1) := by decide +kernel
theorem dX5_canGo_10 : decode cX5_canGo 10 = .ok (.iconst 0, 1) := by decide +kernel
theorem dX5_canGo_11 : decode cX5_canGo 11 = .ok (.istore_n 2, 1) := by decide +kernel
theorem dX5_canGo_12 : decode cX5_canGo 12 = .ok (.iload_n 2, 1) := by decide +kernel
theorem dX5_canGo_13 : decode cX5_canGo 13 = .ok (.aload_n 0, 1) := by decide +kernel
theorem dX5_canGo_14 : decode cX5_canGo 14 = .ok (.getfield 7, 3) := by decide +kernel
theorem dX5_canGo_17 : decode cX5_canGo 17 = .ok (.iconst 1, 1) := by decide +kernel
theorem dX5_canGo_18 : decode cX5_canGo 18 = .ok (.iaload, 1) := by decide +kernel
theorem dX5_canGo_19 : decode cX5_canGo 19 = .ok (.if_icmp .ge 28, 3) := by decide +kernel
theorem dX5_canGo_22 : decode cX5_canGo 22 = .ok (.iload_n 1, 1) := by decide +kernel
theorem dX5_canGo_23 : decode cX5_canGo 23 = .ok (.aload_n 0, 1) := by decide +kernel
theorem dX5_canGo_24 : decode cX5_canGo 24 = .ok (.iload_n 2, 1) := by decide +kernel
theorem dX5_canGo_25 : decode cX5_canGo 25 = .ok (.invokevirtual 207, 3) := by decide +kernel
theorem dX5_canGo_28 : decode cX5_canGo 28 = .ok (.ifCond .ne 7, 3) := by decide +kernel
theorem dX5_canGo_31 : decode cX5_canGo 31 = .ok (.iconst 1, 1) := by decide +kernel
theorem dX5_canGo_32 : decode cX5_canGo 32 = .ok (.goto 4, 3) := by decide +kernel
theorem dX5_canGo_35 : decode cX5_canGo 35 = .ok (.iconst 0, 1) := by decide +kernel
theorem dX5_canGo_36 : decode cX5_canGo 36 = .ok (.invokestatic 167, 3) := by decide +kernel
theorem dX5_canGo_39 : decode cX5_canGo 39 = .ok (.iadd, 1) := by decide +kernel
theorem dX5_canGo_40 : decode cX5_canGo 40 = .ok (.istore_n 1, 1) := by decide +kernel
theorem dX5_canGo_41 : decode cX5_canGo 41 = .ok (.iinc 2 1, 3) := by decide +kernel
theorem dX5_canGo_44 : decode cX5_canGo 44 = .ok (.goto (-32), 3) := by decide +kernel
theorem dX5_canGo_47 : decode cX5_canGo 47 = .ok (.iload_n 1, 1) := by decide +kernel
theorem dX5_canGo_48 : decode cX5_canGo 48 = .ok (.ireturn, 1) := by decide +kernel
theorem dX5_rule_0 : decode cX5_rule 0 = .ok (.iload_n 1, 1) := by decide +kernel
theorem dX5_rule_1 : decode cX5_rule 1 = .ok (.tableswitch 95 0 8 #[51, 51, 51, 58, 64, 70, 77, 85, 90], 51) := by decide +kernel
theorem dX5_rule_52 : decode cX5_rule 52 = .ok (.aload_n 0, 1) := by decide +kernel
theorem dX5_rule_53 : decode cX5_rule 53 = .ok (.getfield 7, 3) := by decide +kernel
theorem dX5_rule_56 : decode cX5_rule 56 = .ok (.iload_n 1, 1) := by decide +kernel
theorem dX5_rule_57 : decode cX5_rule 57 = .ok (.iaload, 1) := by decide +kernel
theorem dX5_rule_58 : decode cX5_rule 58 = .ok (.ireturn, 1) := by decide +kernel
theorem dX5_rule_59 : decode cX5_rule 59 = .ok (.aload_n 0, 1) := by decide +kernel
theorem dX5_rule_60 : decode cX5_rule 60 = .ok (.iconst 1, 1) := by decide +kernel
theorem dX5_rule_61 : decode cX5_rule 61 = .ok (.invokevirtual 210, 3) := by decide +kernel
theorem dX5_rule_64 : decode cX5_rule 64 = .ok (.ireturn, 1) := by decide +kernel
theorem dX5_rule_65 : decode cX5_rule 65 = .ok (.aload_n 0, 1) := by decide +kernel
theorem dX5_rule_66 : decode cX5_rule 66 = .ok (.iconst 2, 1) := by decide +kernel
theorem dX5_rule_67 : decode cX5_rule 67 = .ok (.invokevirtual 210, 3) := by decide +kernel
theorem dX5_rule_70 : decode cX5_rule 70 = .ok (.ireturn, 1) := by decide +kernel
theorem dX5_rule_71 : decode cX5_rule 71 = .ok (.aload_n 0, 1) := by decide +kernel
theorem dX5_rule_72 : decode cX5_rule 72 = .ok (.getfield 7, 3) := by decide +kernel
theorem dX5_rule_75 : decode cX5_rule 75 = .ok (.iconst 3, 1) := by decide +kernel
theorem dX5_rule_76 : decode cX5_rule 76 = .ok (.iaload, 1) := by decide +kernel
theorem dX5_rule_77 : decode cX5_rule 77 = .ok (.ireturn, 1) := by decide +kernel
theorem dX5_rule_78 : decode cX5_rule 78 = .ok (.aload_n 0, 1) := by decide +kernel
theorem dX5_rule_79 : decode cX5_rule 79 = .ok (.invokevirtual 213, 3) := by decide +kernel
theorem dX5_rule_82 : decode cX5_rule 82 = .ok (.invokestatic 167, 3) := by decide +kernel
theorem dX5_rule_85 : decode cX5_rule 85 = .ok (.ireturn, 1) := by decide +kernel
theorem dX5_rule_86 : decode cX5_rule 86 = .ok (.aload_n 0, 1) := by decide +kernel
theorem dX5_rule_87 : decode cX5_rule 87 = .ok (.invokevirtual 216, 3) := by decide +kernel
theorem dX5_rule_90 : decode cX5_rule 90 = .ok (.ireturn, 1) := by decide +kernel
theorem dX5_rule_91 : decode cX5_rule 91 = .ok (.aload_n 0, 1) := by decide +kernel
theorem dX5_rule_92 : decode cX5_rule 92 = .ok (.invokevirtual 219, 3) := by decide +kernel
theorem dX5_rule_95 : decode cX5_rule 95 = .ok (.ireturn, 1) := by decide +kernel
theorem dX5_rule_96 : decode cX5_rule 96 = .ok (.iconst (-1), 1) := by decide +kernel
theorem dX5_rule_97 : decode cX5_rule 97 = .ok (.ireturn, 1) := by decide +kernel
theorem dX5_trackOf_0 : decode cX5_trackOf 0 = .ok (.iconst 0, 1) := by decide +kernel
theorem dX5_trackOf_1 : decode cX5_trackOf 1 = .ok (.istore_n 3, 1) := by decide +kernel
theorem dX5_trackOf_2 : decode cX5_trackOf 2 = .ok (.iload_n 3, 1) := by decide +kernel
theorem dX5_trackOf_3 : decode cX5_trackOf 3 = .ok (.aload_n 0, 1) := by decide +kernel
theorem dX5_trackOf_4 : decode cX5_trackOf 4 = .ok (.iload_n 1, 1) := by decide +kernel
theorem dX5_trackOf_5 : decode cX5_trackOf 5 = .ok (.iconst 0, 1) := by decide +kernel
theorem dX5_trackOf_6 : decode cX5_trackOf 6 = .ok (.invokevirtual 158, 3) := by decide +kernel
theorem dX5_trackOf_9 : decode cX5_trackOf 9 = .ok (.if_icmp .ge 96, 3) := by decide +kernel
theorem dX5_trackOf_12 : decode cX5_trackOf 12 = .ok (.iconst 0, 1) := by decide +kernel
theorem dX5_trackOf_13 : decode cX5_trackOf 13 = .ok (.istore 4, 2) := by decide +kernel
theorem dX5_trackOf_15 : decode cX5_trackOf 15 = .ok (.iconst 0, 1) := by decide +kernel
theorem dX5_trackOf_16 : decode cX5_trackOf 16 = .ok (.istore 5, 2) := by decide +kernel
theorem dX5_trackOf_18 : decode cX5_trackOf 18 = .ok (.iload 5, 2) := by decide +kernel
theorem dX5_trackOf_20 : decode cX5_trackOf 20 = .ok (.aload_n 0, 1) := by decide +kernel
theorem dX5_trackOf_21 : decode cX5_trackOf 21 = .ok (.iload_n 1, 1) := by decide +kernel
theorem dX5_trackOf_22 : decode cX5_trackOf 22 = .ok (.iconst 0, 1) := by decide +kernel
theorem dX5_trackOf_23 : decode cX5_trackOf 23 = .ok (.invokevirtual 158, 3) := by decide +kernel
theorem dX5_trackOf_26 : decode cX5_trackOf 26 = .ok (.if_icmp .ge 58, 3) := by decide +kernel
theorem dX5_trackOf_29 : decode cX5_trackOf 29 = .ok (.aload_n 0, 1) := by decide +kernel
theorem dX5_trackOf_30 : decode cX5_trackOf 30 = .ok (.iload_n 1, 1) := by decide +kernel
theorem dX5_trackOf_31 : decode cX5_trackOf 31 = .ok (.iconst 1, 1) := by decide +kernel
theorem dX5_trackOf_32 : decode cX5_trackOf 32 = .ok (.iload 5, 2) := by decide +kernel
theorem dX5_trackOf_34 : decode cX5_trackOf 34 = .ok (.iadd, 1) := by decide +kernel
theorem dX5_trackOf_35 : decode cX5_trackOf 35 = .ok (.invokevirtual 158, 3) := by decide +kernel
theorem dX5_trackOf_38 : decode cX5_trackOf 38 = .ok (.aload_n 0, 1) := by decide +kernel
theorem dX5_trackOf_39 : decode cX5_trackOf 39 = .ok (.iload_n 1, 1) := by decide +kernel
theorem dX5_trackOf_40 : decode cX5_trackOf 40 = .ok (.iconst 1, 1) := by decide +kernel
theorem dX5_trackOf_41 : decode cX5_trackOf 41 = .ok (.iload_n 3, 1) := by decide +kernel
theorem dX5_trackOf_42 : decode cX5_trackOf 42 = .ok (.iadd, 1) := by decide +kernel
theorem dX5_trackOf_43 : decode cX5_trackOf 43 = .ok (.invokevirtual 158, 3) := by decide +kernel
theorem dX5_trackOf_46 : decode cX5_trackOf 46 = .ok (.isub, 1) := by decide +kernel
theorem dX5_trackOf_47 : decode cX5_trackOf 47 = .ok (.istore 6, 2) := by decide +kernel
theorem dX5_trackOf_49 : decode cX5_trackOf 49 = .ok (.iload 4, 2) := by decide +kernel
theorem dX5_trackOf_51 : decode cX5_trackOf 51 = .ok (.iload 6, 2) := by decide +kernel
theorem dX5_trackOf_53 : decode cX5_trackOf 53 = .ok (.ifCond .gt 14, 3) := by decide +kernel
theorem dX5_trackOf_56 : decode cX5_trackOf 56 = .ok (.iload 6, 2) := by decide +kernel
theorem dX5_trackOf_58 : decode cX5_trackOf 58 = .ok (.ifCond .ne 13, 3) := by decide +kernel
theorem dX5_trackOf_61 : decode cX5_trackOf 61 = .ok (.iload 5, 2) := by decide +kernel
theorem dX5_trackOf_63 : decode cX5_trackOf 63 = .ok (.iload_n 3, 1) := by decide +kernel
theorem dX5_trackOf_64 : decode cX5_trackOf 64 = .ok (.if_icmp .ge 7, 3) := by decide +kernel
theorem dX5_trackOf_67 : decode cX5_trackOf 67 = .ok (.iconst 1, 1) := by decide +kernel
theorem dX5_trackOf_68 : decode cX5_trackOf 68 = .ok (.goto 4, 3) := by decide +kernel
theorem dX5_trackOf_71 : decode cX5_trackOf 71 = .ok (.iconst 0, 1) := by decide +kernel
theorem dX5_trackOf_72 : decode cX5_trackOf 72 = .ok (.invokestatic 167, 3) := by decide +kernel
theorem dX5_trackOf_75 : decode cX5_trackOf 75 = .ok (.iadd, 1) := by decide +kernel
theorem dX5_trackOf_76 : decode cX5_trackOf 76 = .ok (.istore 4, 2) := by decide +kernel
theorem dX5_trackOf_78 : decode cX5_trackOf 78 = .ok (.iinc 5 1, 3) := by decide +kernel
theorem dX5_trackOf_81 : decode cX5_trackOf 81 = .ok (.goto (-63), 3) := by decide +kernel
theorem dX5_trackOf_84 : decode cX5_trackOf 84 = .ok (.iload 4, 2) := by decide +kernel
theorem dX5_trackOf_86 : decode cX5_trackOf 86 = .ok (.iload_n 2, 1) := by decide +kernel
theorem dX5_trackOf_87 : decode cX5_trackOf 87 = .ok (.if_icmp .ne 12, 3) := by decide +kernel
theorem dX5_trackOf_90 : decode cX5_trackOf 90 = .ok (.aload_n 0, 1) := by decide +kernel
theorem dX5_trackOf_91 : decode cX5_trackOf 91 = .ok (.iload_n 1, 1) := by decide +kernel
theorem dX5_trackOf_92 : decode cX5_trackOf 92 = .ok (.iconst 1, 1) := by decide +kernel
theorem dX5_trackOf_93 : decode cX5_trackOf 93 = .ok (.iload_n 3, 1) := by decide +kernel
theorem dX5_trackOf_94 : decode cX5_trackOf 94 = .ok (.iadd, 1) := by decide +kernel
theorem dX5_trackOf_95 : decode cX5_trackOf 95 = .ok (.invokevirtual 158, 3) := by decide +kernel
theorem dX5_trackOf_98 : decode cX5_trackOf 98 = .ok (.ireturn, 1) := by decide +kernel
theorem dX5_trackOf_99 : decode cX5_trackOf 99 = .ok (.iinc 3 1, 3) := by decide +kernel
theorem dX5_trackOf_102 : decode cX5_trackOf 102 = .ok (.goto (-100), 3) := by decide +kernel
theorem dX5_trackOf_105 : decode cX5_trackOf 105 = .ok (.bipush (-4), 2) := by decide +kernel
theorem dX5_trackOf_107 : decode cX5_trackOf 107 = .ok (.ireturn, 1) := by decide +kernel
theorem dX5_trainsAt_0 : decode cX5_trainsAt 0 = .ok (.iconst 0, 1) := by decide +kernel
theorem dX5_trainsAt_1 : decode cX5_trainsAt 1 = .ok (.istore_n 2, 1) := by decide +kernel
theorem dX5_trainsAt_2 : decode cX5_trainsAt 2 = .ok (.iconst 0, 1) := by decide +kernel
theorem dX5_trainsAt_3 : decode cX5_trainsAt 3 = .ok (.istore_n 3, 1) := by decide +kernel
theorem dX5_trainsAt_4 : decode cX5_trainsAt 4 = .ok (.iload_n 3, 1) := by decide +kernel
theorem dX5_trainsAt_5 : decode cX5_trainsAt 5 = .ok (.aload_n 0, 1) := by decide +kernel
theorem dX5_trainsAt_6 : decode cX5_trainsAt 6 = .ok (.getfield 7, 3) := by decide +kernel
theorem dX5_trainsAt_9 : decode cX5_trainsAt 9 = .ok (.iconst 1, 1) := by decide +kernel
theorem dX5_trainsAt_10 : decode cX5_trainsAt 10 = .ok (.iaload, 1) := by decide +kernel
theorem dX5_trainsAt_11 : decode cX5_trainsAt 11 = .ok (.if_icmp .ge 38, 3) := by decide +kernel
theorem dX5_trainsAt_14 : decode cX5_trainsAt 14 = .ok (.iload_n 2, 1) := by decide +kernel
theorem dX5_trainsAt_15 : decode cX5_trainsAt 15 = .ok (.aload_n 0, 1) := by decide +kernel
theorem dX5_trainsAt_16 : decode cX5_trainsAt 16 = .ok (.iload_n 3, 1) := by decide +kernel
theorem dX5_trainsAt_17 : decode cX5_trainsAt 17 = .ok (.invokevirtual 171, 3) := by decide +kernel
theorem dX5_trainsAt_20 : decode cX5_trainsAt 20 = .ok (.ifCond .ne 17, 3) := by decide +kernel
theorem dX5_trainsAt_23 : decode cX5_trainsAt 23 = .ok (.aload_n 0, 1) := by decide +kernel
theorem dX5_trainsAt_24 : decode cX5_trainsAt 24 = .ok (.iload_n 3, 1) := by decide +kernel
theorem dX5_trainsAt_25 : decode cX5_trainsAt 25 = .ok (.iconst 3, 1) := by decide +kernel
theorem dX5_trainsAt_26 : decode cX5_trainsAt 26 = .ok (.invokevirtual 122, 3) := by decide +kernel
theorem dX5_trainsAt_29 : decode cX5_trainsAt 29 = .ok (.iload_n 1, 1) := by decide +kernel
theorem dX5_trainsAt_30 : decode cX5_trainsAt 30 = .ok (.if_icmp .ne 7, 3) := by decide +kernel
theorem dX5_trainsAt_33 : decode cX5_trainsAt 33 = .ok (.iconst 1, 1) := by decide +kernel
theorem dX5_trainsAt_34 : decode cX5_trainsAt 34 = .ok (.goto 4, 3) := by decide +kernel
theorem dX5_trainsAt_37 : decode cX5_trainsAt 37 = .ok (.iconst 0, 1) := by decide +kernel
theorem dX5_trainsAt_38 : decode cX5_trainsAt 38 = .ok (.invokestatic 167, 3) := by decide +kernel
theorem dX5_trainsAt_41 : decode cX5_trainsAt 41 = .ok (.iadd, 1) := by decide +kernel
theorem dX5_trainsAt_42 : decode cX5_trainsAt 42 = .ok (.istore_n 2, 1) := by decide +kernel
theorem dX5_trainsAt_43 : decode cX5_trainsAt 43 = .ok (.iinc 3 1, 3) := by decide +kernel
theorem dX5_trainsAt_46 : decode cX5_trainsAt 46 = .ok (.goto (-42), 3) := by decide +kernel
theorem dX5_trainsAt_49 : decode cX5_trainsAt 49 = .ok (.iload_n 2, 1) := by decide +kernel
theorem dX5_trainsAt_50 : decode cX5_trainsAt 50 = .ok (.ireturn, 1) := by decide +kernel
theorem dX5_place_0 : decode cX5_place 0 = .ok (.aload_n 0, 1) := by decide +kernel
theorem dX5_place_1 : decode cX5_place 1 = .ok (.iload_n 1, 1) := by decide +kernel
theorem dX5_place_2 : decode cX5_place 2 = .ok (.invokevirtual 222, 3) := by decide +kernel
theorem dX5_place_5 : decode cX5_place 5 = .ok (.ifCond .ne 5, 3) := by decide +kernel
theorem dX5_place_8 : decode cX5_place 8 = .ok (.iconst (-1), 1) := by decide +kernel
theorem dX5_place_9 : decode cX5_place 9 = .ok (.ireturn, 1) := by decide +kernel
theorem dX5_place_10 : decode cX5_place 10 = .ok (.iload_n 2, 1) := by decide +kernel
theorem dX5_place_11 : decode cX5_place 11 = .ok (.tableswitch 83 0 5 #[37, 44, 44, 44, 53, 59], 37) := by decide +kernel
theorem dX5_place_48 : decode cX5_place 48 = .ok (.aload_n 0, 1) := by decide +kernel
theorem dX5_place_49 : decode cX5_place 49 = .ok (.iload_n 1, 1) := by decide +kernel
theorem dX5_place_50 : decode cX5_place 50 = .ok (.iconst 0, 1) := by decide +kernel
theorem dX5_place_51 : decode cX5_place 51 = .ok (.invokevirtual 158, 3) := by decide +kernel
theorem dX5_place_54 : decode cX5_place 54 = .ok (.ireturn, 1) := by decide +kernel
theorem dX5_place_55 : decode cX5_place 55 = .ok (.aload_n 0, 1) := by decide +kernel
theorem dX5_place_56 : decode cX5_place 56 = .ok (.iload_n 1, 1) := by decide +kernel
theorem dX5_place_57 : decode cX5_place 57 = .ok (.iload_n 2, 1) := by decide +kernel
theorem dX5_place_58 : decode cX5_place 58 = .ok (.iconst 1, 1) := by decide +kernel
theorem dX5_place_59 : decode cX5_place 59 = .ok (.isub, 1) := by decide +kernel
theorem dX5_place_60 : decode cX5_place 60 = .ok (.invokevirtual 225, 3) := by decide +kernel
theorem dX5_place_63 : decode cX5_place 63 = .ok (.ireturn, 1) := by decide +kernel
theorem dX5_place_64 : decode cX5_place 64 = .ok (.aload_n 0, 1) := by decide +kernel
theorem dX5_place_65 : decode cX5_place 65 = .ok (.iload_n 1, 1) := by decide +kernel
theorem dX5_place_66 : decode cX5_place 66 = .ok (.invokevirtual 228, 3) := by decide +kernel
theorem dX5_place_69 : decode cX5_place 69 = .ok (.ireturn, 1) := by decide +kernel
theorem dX5_place_70 : decode cX5_place 70 = .ok (.iload_n 1, 1) := by decide +kernel
theorem dX5_place_71 : decode cX5_place 71 = .ok (.aload_n 0, 1) := by decide +kernel
theorem dX5_place_72 : decode cX5_place 72 = .ok (.getfield 7, 3) := by decide +kernel
theorem dX5_place_75 : decode cX5_place 75 = .ok (.iconst 0, 1) := by decide +kernel
theorem dX5_place_76 : decode cX5_place 76 = .ok (.iaload, 1) := by decide +kernel
theorem dX5_place_77 : decode cX5_place 77 = .ok (.iconst 1, 1) := by decide +kernel
theorem dX5_place_78 : decode cX5_place 78 = .ok (.isub, 1) := by decide +kernel
theorem dX5_place_79 : decode cX5_place 79 = .ok (.if_icmp .ne 8, 3) := by decide +kernel
theorem dX5_place_82 : decode cX5_place 82 = .ok (.bipush (-4), 2) := by decide +kernel
theorem dX5_place_84 : decode cX5_place 84 = .ok (.goto 9, 3) := by decide +kernel
theorem dX5_place_87 : decode cX5_place 87 = .ok (.aload_n 0, 1) := by decide +kernel
theorem dX5_place_88 : decode cX5_place 88 = .ok (.iload_n 1, 1) := by decide +kernel
theorem dX5_place_89 : decode cX5_place 89 = .ok (.iconst 4, 1) := by decide +kernel
theorem dX5_place_90 : decode cX5_place 90 = .ok (.invokevirtual 158, 3) := by decide +kernel
theorem dX5_place_93 : decode cX5_place 93 = .ok (.ireturn, 1) := by decide +kernel
theorem dX5_place_94 : decode cX5_place 94 = .ok (.iconst (-1), 1) := by decide +kernel
theorem dX5_place_95 : decode cX5_place 95 = .ok (.ireturn, 1) := by decide +kernel
theorem dX5_train_0 : decode cX5_train 0 = .ok (.aload_n 0, 1) := by decide +kernel
theorem dX5_train_1 : decode cX5_train 1 = .ok (.iload_n 1, 1) := by decide +kernel
theorem dX5_train_2 : decode cX5_train 2 = .ok (.invokevirtual 231, 3) := by decide +kernel
theorem dX5_train_5 : decode cX5_train 5 = .ok (.ifCond .ne 5, 3) := by decide +kernel
theorem dX5_train_8 : decode cX5_train 8 = .ok (.iconst (-1), 1) := by decide +kernel
theorem dX5_train_9 : decode cX5_train 9 = .ok (.ireturn, 1) := by decide +kernel
theorem dX5_train_10 : decode cX5_train 10 = .ok (.iload_n 2, 1) := by decide +kernel
theorem dX5_train_11 : decode cX5_train 11 = .ok (.tableswitch 74 0 6 #[41, 41, 41, 48, 41, 41, 68], 41) := by decide +kernel
theorem dX5_train_52 : decode cX5_train 52 = .ok (.aload_n 0, 1) := by decide +kernel
theorem dX5_train_53 : decode cX5_train 53 = .ok (.iload_n 1, 1) := by decide +kernel
theorem dX5_train_54 : decode cX5_train 54 = .ok (.iload_n 2, 1) := by decide +kernel
theorem dX5_train_55 : decode cX5_train 55 = .ok (.invokevirtual 122, 3) := by decide +kernel
theorem dX5_train_58 : decode cX5_train 58 = .ok (.ireturn, 1) := by decide +kernel
theorem dX5_train_59 : decode cX5_train 59 = .ok (.aload_n 0, 1) := by decide +kernel
theorem dX5_train_60 : decode cX5_train 60 = .ok (.iload_n 1, 1) := by decide +kernel
theorem dX5_train_61 : decode cX5_train 61 = .ok (.invokevirtual 171, 3) := by decide +kernel
theorem dX5_train_64 : decode cX5_train 64 = .ok (.ifCond .eq 8, 3) := by decide +kernel
theorem dX5_train_67 : decode cX5_train 67 = .ok (.bipush (-4), 2) := by decide +kernel
theorem dX5_train_69 : decode cX5_train 69 = .ok (.goto 9, 3) := by decide +kernel
theorem dX5_train_72 : decode cX5_train 72 = .ok (.aload_n 0, 1) := by decide +kernel
theorem dX5_train_73 : decode cX5_train 73 = .ok (.iload_n 1, 1) := by decide +kernel
theorem dX5_train_74 : decode cX5_train 74 = .ok (.iconst 3, 1) := by decide +kernel
theorem dX5_train_75 : decode cX5_train 75 = .ok (.invokevirtual 122, 3) := by decide +kernel
theorem dX5_train_78 : decode cX5_train 78 = .ok (.ireturn, 1) := by decide +kernel
theorem dX5_train_79 : decode cX5_train 79 = .ok (.aload_n 0, 1) := by decide +kernel
theorem dX5_train_80 : decode cX5_train 80 = .ok (.iload_n 1, 1) := by decide +kernel
theorem dX5_train_81 : decode cX5_train 81 = .ok (.invokevirtual 234, 3) := by decide +kernel
theorem dX5_train_84 : decode cX5_train 84 = .ok (.ireturn, 1) := by decide +kernel
theorem dX5_train_85 : decode cX5_train 85 = .ok (.iconst (-1), 1) := by decide +kernel
theorem dX5_train_86 : decode cX5_train 86 = .ok (.ireturn, 1) := by decide +kernel
theorem dX5_why_0 : decode cX5_why 0 = .ok (.aload_n 0, 1) := by decide +kernel
theorem dX5_why_1 : decode cX5_why 1 = .ok (.iload_n 1, 1) := by decide +kernel
theorem dX5_why_2 : decode cX5_why 2 = .ok (.invokevirtual 231, 3) := by decide +kernel
theorem dX5_why_5 : decode cX5_why 5 = .ok (.ifCond .ne 5, 3) := by decide +kernel
theorem dX5_why_8 : decode cX5_why 8 = .ok (.iconst (-1), 1) := by decide +kernel
theorem dX5_why_9 : decode cX5_why 9 = .ok (.ireturn, 1) := by decide +kernel
theorem dX5_why_10 : decode cX5_why 10 = .ok (.aload_n 0, 1) := by decide +kernel
theorem dX5_why_11 : decode cX5_why 11 = .ok (.aload_n 0, 1) := by decide +kernel
theorem dX5_why_12 : decode cX5_why 12 = .ok (.invokevirtual 126, 3) := by decide +kernel
theorem dX5_why_15 : decode cX5_why 15 = .ok (.invokevirtual 136, 3) := by decide +kernel
theorem dX5_why_18 : decode cX5_why 18 = .ok (.aload_n 0, 1) := by decide +kernel
theorem dX5_why_19 : decode cX5_why 19 = .ok (.iload_n 1, 1) := by decide +kernel
theorem dX5_why_20 : decode cX5_why 20 = .ok (.invokevirtual 207, 3) := by decide +kernel
theorem dX5_why_23 : decode cX5_why 23 = .ok (.ireturn, 1) := by decide +kernel
theorem dX5_firstAt_0 : decode cX5_firstAt 0 = .ok (.aload_n 0, 1) := by decide +kernel
theorem dX5_firstAt_1 : decode cX5_firstAt 1 = .ok (.aload_n 0, 1) := by decide +kernel
theorem dX5_firstAt_2 : decode cX5_firstAt 2 = .ok (.invokevirtual 126, 3) := by decide +kernel
theorem dX5_firstAt_5 : decode cX5_firstAt 5 = .ok (.invokevirtual 129, 3) := by decide +kernel
theorem dX5_firstAt_8 : decode cX5_firstAt 8 = .ok (.iconst 0, 1) := by decide +kernel
theorem dX5_firstAt_9 : decode cX5_firstAt 9 = .ok (.istore_n 2, 1) := by decide +kernel
theorem dX5_firstAt_10 : decode cX5_firstAt 10 = .ok (.iload_n 2, 1) := by decide +kernel
theorem dX5_firstAt_11 : decode cX5_firstAt 11 = .ok (.aload_n 0, 1) := by decide +kernel
theorem dX5_firstAt_12 : decode cX5_firstAt 12 = .ok (.getfield 7, 3) := by decide +kernel
theorem dX5_firstAt_15 : decode cX5_firstAt 15 = .ok (.iconst 1, 1) := by decide +kernel
theorem dX5_firstAt_16 : decode cX5_firstAt 16 = .ok (.iaload, 1) := by decide +kernel
theorem dX5_firstAt_17 : decode cX5_firstAt 17 = .ok (.if_icmp .ge 23, 3) := by decide +kernel
theorem dX5_firstAt_20 : decode cX5_firstAt 20 = .ok (.aload_n 0, 1) := by decide +kernel
theorem dX5_firstAt_21 : decode cX5_firstAt 21 = .ok (.getfield 29, 3) := by decide +kernel
theorem dX5_firstAt_24 : decode cX5_firstAt 24 = .ok (.iload_n 2, 1) := by decide +kernel
theorem dX5_firstAt_25 : decode cX5_firstAt 25 = .ok (.iaload, 1) := by decide +kernel
theorem dX5_firstAt_26 : decode cX5_firstAt 26 = .ok (.iload_n 1, 1) := by decide +kernel
theorem dX5_firstAt_27 : decode cX5_firstAt 27 = .ok (.iconst 1, 1) := by decide +kernel
theorem dX5_firstAt_28 : decode cX5_firstAt 28 = .ok (.iadd, 1) := by decide +kernel
theorem dX5_firstAt_29 : decode cX5_firstAt 29 = .ok (.if_icmp .ne 5, 3) := by decide +kernel
theorem dX5_firstAt_32 : decode cX5_firstAt 32 = .ok (.iload_n 2, 1) := by decide +kernel
theorem dX5_firstAt_33 : decode cX5_firstAt 33 = .ok (.ireturn, 1) := by decide +kernel
theorem dX5_firstAt_34 : decode cX5_firstAt 34 = .ok (.iinc 2 1, 3) := by decide +kernel
theorem dX5_firstAt_37 : decode cX5_firstAt 37 = .ok (.goto (-27), 3) := by decide +kernel
theorem dX5_firstAt_40 : decode cX5_firstAt 40 = .ok (.bipush (-4), 2) := by decide +kernel
theorem dX5_firstAt_42 : decode cX5_firstAt 42 = .ok (.ireturn, 1) := by decide +kernel
theorem dX5_isEverDone_0 : decode cX5_isEverDone 0 = .ok (.iconst 0, 1) := by decide +kernel
theorem dX5_isEverDone_1 : decode cX5_isEverDone 1 = .ok (.istore_n 2, 1) := by decide +kernel
theorem dX5_isEverDone_2 : decode cX5_isEverDone 2 = .ok (.iconst 0, 1) := by decide +kernel
theorem dX5_isEverDone_3 : decode cX5_isEverDone 3 = .ok (.istore_n 3, 1) := by decide +kernel
theorem dX5_isEverDone_4 : decode cX5_isEverDone 4 = .ok (.iload_n 3, 1) := by decide +kernel
theorem dX5_isEverDone_5 : decode cX5_isEverDone 5 = .ok (.aload_n 0, 1) := by decide +kernel
theorem dX5_isEverDone_6 : decode cX5_isEverDone 6 = .ok (.getfield 186, 3) := by decide +kernel
theorem dX5_isEverDone_9 : decode cX5_isEverDone 9 = .ok (.if_icmp .ge 36, 3) := by decide +kernel
theorem dX5_isEverDone_12 : decode cX5_isEverDone 12 = .ok (.iload_n 2, 1) := by decide +kernel
theorem dX5_isEverDone_13 : decode cX5_isEverDone 13 = .ok (.ifCond .ne 20, 3) := by decide +kernel
theorem dX5_isEverDone_16 : decode cX5_isEverDone 16 = .ok (.aload_n 0, 1) := by decide +kernel
theorem dX5_isEverDone_17 : decode cX5_isEverDone 17 = .ok (.getfield 32, 3) := by decide +kernel
theorem dX5_isEverDone_20 : decode cX5_isEverDone 20 = .ok (.iload_n 3, 1) := by decide +kernel
theorem dX5_isEverDone_21 : decode cX5_isEverDone 21 = .ok (.iaload, 1) := by decide +kernel
theorem dX5_isEverDone_22 : decode cX5_isEverDone 22 = .ok (.iload_n 1, 1) := by decide +kernel
theorem dX5_isEverDone_23 : decode cX5_isEverDone 23 = .ok (.invokestatic 174, 3) := by decide +kernel
theorem dX5_isEverDone_26 : decode cX5_isEverDone 26 = .ok (.idiv, 1) := by decide +kernel
theorem dX5_isEverDone_27 : decode cX5_isEverDone 27 = .ok (.bipush 7, 2) := by decide +kernel
theorem dX5_isEverDone_29 : decode cX5_isEverDone 29 = .ok (.irem, 1) := by decide +kernel
theorem dX5_isEverDone_30 : decode cX5_isEverDone 30 = .ok (.ifCond .ne 7, 3) := by decide +kernel
theorem dX5_isEverDone_33 : decode cX5_isEverDone 33 = .ok (.iconst 1, 1) := by decide +kernel
theorem dX5_isEverDone_34 : decode cX5_isEverDone 34 = .ok (.goto 4, 3) := by decide +kernel
theorem dX5_isEverDone_37 : decode cX5_isEverDone 37 = .ok (.iconst 0, 1) := by decide +kernel
theorem dX5_isEverDone_38 : decode cX5_isEverDone 38 = .ok (.istore_n 2, 1) := by decide +kernel
theorem dX5_isEverDone_39 : decode cX5_isEverDone 39 = .ok (.iinc 3 1, 3) := by decide +kernel
theorem dX5_isEverDone_42 : decode cX5_isEverDone 42 = .ok (.goto (-38), 3) := by decide +kernel
theorem dX5_isEverDone_45 : decode cX5_isEverDone 45 = .ok (.iload_n 2, 1) := by decide +kernel
theorem dX5_isEverDone_46 : decode cX5_isEverDone 46 = .ok (.ireturn, 1) := by decide +kernel
theorem dX5_firstStuck_0 : decode cX5_firstStuck 0 = .ok (.aload_n 0, 1) := by decide +kernel
theorem dX5_firstStuck_1 : decode cX5_firstStuck 1 = .ok (.aload_n 0, 1) := by decide +kernel
theorem dX5_firstStuck_2 : decode cX5_firstStuck 2 = .ok (.invokevirtual 126, 3) := by decide +kernel
theorem dX5_firstStuck_5 : decode cX5_firstStuck 5 = .ok (.invokevirtual 129, 3) := by decide +kernel
theorem dX5_firstStuck_8 : decode cX5_firstStuck 8 = .ok (.aload_n 0, 1) := by decide +kernel
theorem dX5_firstStuck_9 : decode cX5_firstStuck 9 = .ok (.aload_n 0, 1) := by decide +kernel
theorem dX5_firstStuck_10 : decode cX5_firstStuck 10 = .ok (.iload_n 1, 1) := by decide +kernel
theorem dX5_firstStuck_11 : decode cX5_firstStuck 11 = .ok (.invokevirtual 189, 3) := by decide +kernel
theorem dX5_firstStuck_14 : decode cX5_firstStuck 14 = .ok (.invokevirtual 136, 3) := by decide +kernel
theorem dX5_firstStuck_17 : decode cX5_firstStuck 17 = .ok (.iconst 0, 1) := by decide +kernel
theorem dX5_firstStuck_18 : decode cX5_firstStuck 18 = .ok (.istore_n 2, 1) := by decide +kernel
theorem dX5_firstStuck_19 : decode cX5_firstStuck 19 = .ok (.iload_n 2, 1) := by decide +kernel
theorem dX5_firstStuck_20 : decode cX5_firstStuck 20 = .ok (.aload_n 0, 1) := by decide +kernel
theorem dX5_firstStuck_21 : decode cX5_firstStuck 21 = .ok (.getfield 7, 3) := by decide +kernel
theorem dX5_firstStuck_24 : decode cX5_firstStuck 24 = .ok (.iconst 1, 1) := by decide +kernel
theorem dX5_firstStuck_25 : decode cX5_firstStuck 25 = .ok (.iaload, 1) := by decide +kernel
theorem dX5_firstStuck_26 : decode cX5_firstStuck 26 = .ok (.if_icmp .ge 19, 3) := by decide +kernel
theorem dX5_firstStuck_29 : decode cX5_firstStuck 29 = .ok (.aload_n 0, 1) := by decide +kernel
theorem dX5_firstStuck_30 : decode cX5_firstStuck 30 = .ok (.iload_n 2, 1) := by decide +kernel
theorem dX5_firstStuck_31 : decode cX5_firstStuck 31 = .ok (.invokevirtual 237, 3) := by decide +kernel
theorem dX5_firstStuck_34 : decode cX5_firstStuck 34 = .ok (.ifCond .ne 5, 3) := by decide +kernel
theorem dX5_firstStuck_37 : decode cX5_firstStuck 37 = .ok (.iload_n 2, 1) := by decide +kernel
theorem dX5_firstStuck_38 : decode cX5_firstStuck 38 = .ok (.ireturn, 1) := by decide +kernel
theorem dX5_firstStuck_39 : decode cX5_firstStuck 39 = .ok (.iinc 2 1, 3) := by decide +kernel
theorem dX5_firstStuck_42 : decode cX5_firstStuck 42 = .ok (.goto (-23), 3) := by decide +kernel
theorem dX5_firstStuck_45 : decode cX5_firstStuck 45 = .ok (.bipush (-4), 2) := by decide +kernel
theorem dX5_firstStuck_47 : decode cX5_firstStuck 47 = .ok (.ireturn, 1) := by decide +kernel
theorem dX5_who_0 : decode cX5_who 0 = .ok (.aload_n 0, 1) := by decide +kernel
theorem dX5_who_1 : decode cX5_who 1 = .ok (.iload_n 1, 1) := by decide +kernel
theorem dX5_who_2 : decode cX5_who 2 = .ok (.invokevirtual 231, 3) := by decide +kernel
theorem dX5_who_5 : decode cX5_who 5 = .ok (.ifCond .ne 5, 3) := by decide +kernel
theorem dX5_who_8 : decode cX5_who 8 = .ok (.iconst (-1), 1) := by decide +kernel
theorem dX5_who_9 : decode cX5_who 9 = .ok (.ireturn, 1) := by decide +kernel
theorem dX5_who_10 : decode cX5_who 10 = .ok (.aload_n 0, 1) := by decide +kernel
theorem dX5_who_11 : decode cX5_who 11 = .ok (.aload_n 0, 1) := by decide +kernel
theorem dX5_who_12 : decode cX5_who 12 = .ok (.invokevirtual 126, 3) := by decide +kernel
theorem dX5_who_15 : decode cX5_who 15 = .ok (.invokevirtual 136, 3) := by decide +kernel
theorem dX5_who_18 : decode cX5_who 18 = .ok (.aload_n 0, 1) := by decide +kernel
theorem dX5_who_19 : decode cX5_who 19 = .ok (.iload_n 1, 1) := by decide +kernel
theorem dX5_who_20 : decode cX5_who 20 = .ok (.iconst 3, 1) := by decide +kernel
theorem dX5_who_21 : decode cX5_who 21 = .ok (.invokevirtual 122, 3) := by decide +kernel
theorem dX5_who_24 : decode cX5_who 24 = .ok (.istore_n 2, 1) := by decide +kernel
theorem dX5_who_25 : decode cX5_who 25 = .ok (.aload_n 0, 1) := by decide +kernel
theorem dX5_who_26 : decode cX5_who 26 = .ok (.iload_n 1, 1) := by decide +kernel
theorem dX5_who_27 : decode cX5_who 27 = .ok (.invokevirtual 207, 3) := by decide +kernel
theorem dX5_who_30 : decode cX5_who 30 = .ok (.tableswitch 55 3 5 #[26, 38, 49], 26) := by decide +kernel
theorem dX5_who_56 : decode cX5_who 56 = .ok (.aload_n 0, 1) := by decide +kernel
theorem dX5_who_57 : decode cX5_who 57 = .ok (.iload_n 2, 1) := by decide +kernel
theorem dX5_who_58 : decode cX5_who 58 = .ok (.aload_n 0, 1) := by decide +kernel
theorem dX5_who_59 : decode cX5_who 59 = .ok (.iload_n 1, 1) := by decide +kernel
theorem dX5_who_60 : decode cX5_who 60 = .ok (.iload_n 2, 1) := by decide +kernel
theorem dX5_who_61 : decode cX5_who 61 = .ok (.invokevirtual 161, 3) := by decide +kernel
theorem dX5_who_64 : decode cX5_who 64 = .ok (.invokevirtual 204, 3) := by decide +kernel
theorem dX5_who_67 : decode cX5_who 67 = .ok (.ireturn, 1) := by decide +kernel
theorem dX5_who_68 : decode cX5_who 68 = .ok (.aload_n 0, 1) := by decide +kernel
theorem dX5_who_69 : decode cX5_who 69 = .ok (.aload_n 0, 1) := by decide +kernel
theorem dX5_who_70 : decode cX5_who 70 = .ok (.iload_n 1, 1) := by decide +kernel
theorem dX5_who_71 : decode cX5_who 71 = .ok (.iload_n 2, 1) := by decide +kernel
theorem dX5_who_72 : decode cX5_who 72 = .ok (.invokevirtual 161, 3) := by decide +kernel
theorem dX5_who_75 : decode cX5_who 75 = .ok (.invokevirtual 240, 3) := by decide +kernel
theorem dX5_who_78 : decode cX5_who 78 = .ok (.ireturn, 1) := by decide +kernel
theorem dX5_who_79 : decode cX5_who 79 = .ok (.aload_n 0, 1) := by decide +kernel
theorem dX5_who_80 : decode cX5_who 80 = .ok (.iload_n 1, 1) := by decide +kernel
theorem dX5_who_81 : decode cX5_who 81 = .ok (.invokevirtual 243, 3) := by decide +kernel
theorem dX5_who_84 : decode cX5_who 84 = .ok (.ireturn, 1) := by decide +kernel
theorem dX5_who_85 : decode cX5_who 85 = .ok (.bipush (-4), 2) := by decide +kernel
theorem dX5_who_87 : decode cX5_who 87 = .ok (.ireturn, 1) := by decide +kernel
theorem dX5_order_0 : decode cX5_order 0 = .ok (.iload_n 1, 1) := by decide +kernel
theorem dX5_order_1 : decode cX5_order 1 = .ok (.ifCond .ge 5, 3) := by decide +kernel
theorem dX5_order_4 : decode cX5_order 4 = .ok (.iconst (-1), 1) := by decide +kernel
theorem dX5_order_5 : decode cX5_order 5 = .ok (.ireturn, 1) := by decide +kernel
theorem dX5_order_6 : decode cX5_order 6 = .ok (.aload_n 0, 1) := by decide +kernel
theorem dX5_order_7 : decode cX5_order 7 = .ok (.invokevirtual 198, 3) := by decide +kernel
theorem dX5_order_10 : decode cX5_order 10 = .ok (.iload_n 1, 1) := by decide +kernel
theorem dX5_order_11 : decode cX5_order 11 = .ok (.aload_n 0, 1) := by decide +kernel
theorem dX5_order_12 : decode cX5_order 12 = .ok (.getfield 192, 3) := by decide +kernel
theorem dX5_order_15 : decode cX5_order 15 = .ok (.if_icmp .ge 12, 3) := by decide +kernel
theorem dX5_order_18 : decode cX5_order 18 = .ok (.aload_n 0, 1) := by decide +kernel
theorem dX5_order_19 : decode cX5_order 19 = .ok (.getfield 41, 3) := by decide +kernel
theorem dX5_order_22 : decode cX5_order 22 = .ok (.iload_n 1, 1) := by decide +kernel
theorem dX5_order_23 : decode cX5_order 23 = .ok (.iaload, 1) := by decide +kernel
theorem dX5_order_24 : decode cX5_order 24 = .ok (.goto 5, 3) := by decide +kernel
theorem dX5_order_27 : decode cX5_order 27 = .ok (.bipush (-4), 2) := by decide +kernel
theorem dX5_order_29 : decode cX5_order 29 = .ok (.ireturn, 1) := by decide +kernel
theorem dX5_reach_0 : decode cX5_reach 0 = .ok (.iload_n 1, 1) := by decide +kernel
theorem dX5_reach_1 : decode cX5_reach 1 = .ok (.i2l, 1) := by decide +kernel
theorem dX5_reach_2 : decode cX5_reach 2 = .ok (.lconst 0, 1) := by decide +kernel
theorem dX5_reach_3 : decode cX5_reach 3 = .ok (.lconst 1, 1) := by decide +kernel
theorem dX5_reach_4 : decode cX5_reach 4 = .ok (.invokestatic 55, 3) := by decide +kernel
theorem dX5_reach_7 : decode cX5_reach 7 = .ok (.ifCond .ne 5, 3) := by decide +kernel
theorem dX5_reach_10 : decode cX5_reach 10 = .ok (.iconst (-1), 1) := by decide +kernel
theorem dX5_reach_11 : decode cX5_reach 11 = .ok (.ireturn, 1) := by decide +kernel
theorem dX5_reach_12 : decode cX5_reach 12 = .ok (.aload_n 0, 1) := by decide +kernel
theorem dX5_reach_13 : decode cX5_reach 13 = .ok (.aload_n 0, 1) := by decide +kernel
theorem dX5_reach_14 : decode cX5_reach 14 = .ok (.invokevirtual 126, 3) := by decide +kernel
theorem dX5_reach_17 : decode cX5_reach 17 = .ok (.invokevirtual 136, 3) := by decide +kernel
theorem dX5_reach_20 : decode cX5_reach 20 = .ok (.iconst 0, 1) := by decide +kernel
theorem dX5_reach_21 : decode cX5_reach 21 = .ok (.istore_n 2, 1) := by decide +kernel
theorem dX5_reach_22 : decode cX5_reach 22 = .ok (.iconst 0, 1) := by decide +kernel
theorem dX5_reach_23 : decode cX5_reach 23 = .ok (.istore_n 3, 1) := by decide +kernel
theorem dX5_reach_24 : decode cX5_reach 24 = .ok (.iload_n 3, 1) := by decide +kernel
theorem dX5_reach_25 : decode cX5_reach 25 = .ok (.aload_n 0, 1) := by decide +kernel
theorem dX5_reach_26 : decode cX5_reach 26 = .ok (.getfield 186, 3) := by decide +kernel
theorem dX5_reach_29 : decode cX5_reach 29 = .ok (.if_icmp .ge 38, 3) := by decide +kernel
theorem dX5_reach_32 : decode cX5_reach 32 = .ok (.iload_n 2, 1) := by decide +kernel
theorem dX5_reach_33 : decode cX5_reach 33 = .ok (.iload_n 1, 1) := by decide +kernel
theorem dX5_reach_34 : decode cX5_reach 34 = .ok (.ifCond .eq 17, 3) := by decide +kernel
theorem dX5_reach_37 : decode cX5_reach 37 = .ok (.aload_n 0, 1) := by decide +kernel
theorem dX5_reach_38 : decode cX5_reach 38 = .ok (.getfield 38, 3) := by decide +kernel
theorem dX5_reach_41 : decode cX5_reach 41 = .ok (.aload_n 0, 1) := by decide +kernel
theorem dX5_reach_42 : decode cX5_reach 42 = .ok (.getfield 32, 3) := by decide +kernel
theorem dX5_reach_45 : decode cX5_reach 45 = .ok (.iload_n 3, 1) := by decide +kernel
theorem dX5_reach_46 : decode cX5_reach 46 = .ok (.iaload, 1) := by decide +kernel
theorem dX5_reach_47 : decode cX5_reach 47 = .ok (.baload, 1) := by decide +kernel
theorem dX5_reach_48 : decode cX5_reach 48 = .ok (.ifCond .eq 7, 3) := by decide +kernel
theorem dX5_reach_51 : decode cX5_reach 51 = .ok (.iconst 1, 1) := by decide +kernel
theorem dX5_reach_52 : decode cX5_reach 52 = .ok (.goto 4, 3) := by decide +kernel
theorem dX5_reach_55 : decode cX5_reach 55 = .ok (.iconst 0, 1) := by decide +kernel
theorem dX5_reach_56 : decode cX5_reach 56 = .ok (.invokestatic 167, 3) := by decide +kernel
theorem dX5_reach_59 : decode cX5_reach 59 = .ok (.iadd, 1) := by decide +kernel
theorem dX5_reach_60 : decode cX5_reach 60 = .ok (.istore_n 2, 1) := by decide +kernel
theorem dX5_reach_61 : decode cX5_reach 61 = .ok (.iinc 3 1, 3) := by decide +kernel
theorem dX5_reach_64 : decode cX5_reach 64 = .ok (.goto (-40), 3) := by decide +kernel
theorem dX5_reach_67 : decode cX5_reach 67 = .ok (.iload_n 2, 1) := by decide +kernel
theorem dX5_reach_68 : decode cX5_reach 68 = .ok (.ireturn, 1) := by decide +kernel
theorem dX5_enters_0 : decode cX5_enters 0 = .ok (.aload_n 0, 1) := by decide +kernel
theorem dX5_enters_1 : decode cX5_enters 1 = .ok (.getfield 7, 3) := by decide +kernel
theorem dX5_enters_4 : decode cX5_enters 4 = .ok (.iconst 3, 1) := by decide +kernel
theorem dX5_enters_5 : decode cX5_enters 5 = .ok (.iaload, 1) := by decide +kernel
theorem dX5_enters_6 : decode cX5_enters 6 = .ok (.bipush 60, 2) := by decide +kernel
theorem dX5_enters_8 : decode cX5_enters 8 = .ok (.if_icmp .ne 43, 3) := by decide +kernel
theorem dX5_enters_11 : decode cX5_enters 11 = .ok (.bipush 58, 2) := by decide +kernel
theorem dX5_enters_13 : decode cX5_enters 13 = .ok (.istore_n 3, 1) := by decide +kernel
theorem dX5_enters_14 : decode cX5_enters 14 = .ok (.iload_n 3, 1) := by decide +kernel
theorem dX5_enters_15 : decode cX5_enters 15 = .ok (.sipush 235, 3) := by decide +kernel
theorem dX5_enters_18 : decode cX5_enters 18 = .ok (.if_icmp .ge 23, 3) := by decide +kernel
theorem dX5_enters_21 : decode cX5_enters 21 = .ok (.aload_n 0, 1) := by decide +kernel
theorem dX5_enters_22 : decode cX5_enters 22 = .ok (.getfield 7, 3) := by decide +kernel
theorem dX5_enters_25 : decode cX5_enters 25 = .ok (.iload_n 3, 1) := by decide +kernel
theorem dX5_enters_26 : decode cX5_enters 26 = .ok (.aload_n 0, 1) := by decide +kernel
theorem dX5_enters_27 : decode cX5_enters 27 = .ok (.getfield 7, 3) := by decide +kernel
theorem dX5_enters_30 : decode cX5_enters 30 = .ok (.iload_n 3, 1) := by decide +kernel
theorem dX5_enters_31 : decode cX5_enters 31 = .ok (.iconst 3, 1) := by decide +kernel
theorem dX5_enters_32 : decode cX5_enters 32 = .ok (.iadd, 1) := by decide +kernel
theorem dX5_enters_33 : decode cX5_enters 33 = .ok (.iaload, 1) := by decide +kernel
theorem dX5_enters_34 : decode cX5_enters 34 = .ok (.iastore, 1) := by decide +kernel
theorem dX5_enters_35 : decode cX5_enters 35 = .ok (.iinc 3 1, 3) := by decide +kernel
theorem dX5_enters_38 : decode cX5_enters 38 = .ok (.goto (-24), 3) := by decide +kernel
theorem dX5_enters_41 : decode cX5_enters 41 = .ok (.aload_n 0, 1) := by decide +kernel
theorem dX5_enters_42 : decode cX5_enters 42 = .ok (.getfield 7, 3) := by decide +kernel
theorem dX5_enters_45 : decode cX5_enters 45 = .ok (.iconst 3, 1) := by decide +kernel
theorem dX5_enters_46 : decode cX5_enters 46 = .ok (.dup2, 1) := by decide +kernel
theorem dX5_enters_47 : decode cX5_enters 47 = .ok (.iaload, 1) := by decide +kernel
theorem dX5_enters_48 : decode cX5_enters 48 = .ok (.iconst 1, 1) := by decide +kernel
theorem dX5_enters_49 : decode cX5_enters 49 = .ok (.isub, 1) := by decide +kernel
theorem dX5_enters_50 : decode cX5_enters 50 = .ok (.iastore, 1) := by decide +kernel
theorem dX5_enters_51 : decode cX5_enters 51 = .ok (.aload_n 0, 1) := by decide +kernel
theorem dX5_enters_52 : decode cX5_enters 52 = .ok (.getfield 7, 3) := by decide +kernel
theorem dX5_enters_55 : decode cX5_enters 55 = .ok (.iconst 3, 1) := by decide +kernel
theorem dX5_enters_56 : decode cX5_enters 56 = .ok (.iaload, 1) := by decide +kernel
theorem dX5_enters_57 : decode cX5_enters 57 = .ok (.istore_n 3, 1) := by decide +kernel
theorem dX5_enters_58 : decode cX5_enters 58 = .ok (.iload_n 3, 1) := by decide +kernel
theorem dX5_enters_59 : decode cX5_enters 59 = .ok (.ifCond .le 76, 3) := by decide +kernel
theorem dX5_enters_62 : decode cX5_enters 62 = .ok (.aload_n 0, 1) := by decide +kernel
theorem dX5_enters_63 : decode cX5_enters 63 = .ok (.iload_n 3, 1) := by decide +kernel
theorem dX5_enters_64 : decode cX5_enters 64 = .ok (.iconst 1, 1) := by decide +kernel
theorem dX5_enters_65 : decode cX5_enters 65 = .ok (.isub, 1) := by decide +kernel
theorem dX5_enters_66 : decode cX5_enters 66 = .ok (.iconst 0, 1) := by decide +kernel
theorem dX5_enters_67 : decode cX5_enters 67 = .ok (.invokevirtual 246, 3) := by decide +kernel
theorem dX5_enters_70 : decode cX5_enters 70 = .ok (.aload_n 0, 1) := by decide +kernel
theorem dX5_enters_71 : decode cX5_enters 71 = .ok (.getfield 7, 3) := by decide +kernel
theorem dX5_enters_74 : decode cX5_enters 74 = .ok (.iconst 2, 1) := by decide +kernel
theorem dX5_enters_75 : decode cX5_enters 75 = .ok (.iaload, 1) := by decide +kernel
theorem dX5_enters_76 : decode cX5_enters 76 = .ok (.if_icmp .ne 59, 3) := by decide +kernel
theorem dX5_enters_79 : decode cX5_enters 79 = .ok (.aload_n 0, 1) := by decide +kernel
theorem dX5_enters_80 : decode cX5_enters 80 = .ok (.iload_n 3, 1) := by decide +kernel
theorem dX5_enters_81 : decode cX5_enters 81 = .ok (.iconst 1, 1) := by decide +kernel
theorem dX5_enters_82 : decode cX5_enters 82 = .ok (.isub, 1) := by decide +kernel
theorem dX5_enters_83 : decode cX5_enters 83 = .ok (.iconst 1, 1) := by decide +kernel
theorem dX5_enters_84 : decode cX5_enters 84 = .ok (.invokevirtual 246, 3) := by decide +kernel
theorem dX5_enters_87 : decode cX5_enters 87 = .ok (.iload_n 1, 1) := by decide +kernel
theorem dX5_enters_88 : decode cX5_enters 88 = .ok (.if_icmp .le 47, 3) := by decide +kernel
theorem dX5_enters_91 : decode cX5_enters 91 = .ok (.iconst 0, 1) := by decide +kernel
theorem dX5_enters_92 : decode cX5_enters 92 = .ok (.istore 4, 2) := by decide +kernel
theorem dX5_enters_94 : decode cX5_enters 94 = .ok (.iload 4, 2) := by decide +kernel
theorem dX5_enters_96 : decode cX5_enters 96 = .ok (.iconst 3, 1) := by decide +kernel
theorem dX5_enters_97 : decode cX5_enters 97 = .ok (.if_icmp .ge 32, 3) := by decide +kernel
theorem dX5_enters_100 : decode cX5_enters 100 = .ok (.aload_n 0, 1) := by decide +kernel
theorem dX5_enters_101 : decode cX5_enters 101 = .ok (.getfield 7, 3) := by decide +kernel
theorem dX5_enters_104 : decode cX5_enters 104 = .ok (.bipush 58, 2) := by decide +kernel
theorem dX5_enters_106 : decode cX5_enters 106 = .ok (.iconst 3, 1) := by decide +kernel
theorem dX5_enters_107 : decode cX5_enters 107 = .ok (.iload_n 3, 1) := by decide +kernel
theorem dX5_enters_108 : decode cX5_enters 108 = .ok (.imul, 1) := by decide +kernel
theorem dX5_enters_109 : decode cX5_enters 109 = .ok (.iadd, 1) := by decide +kernel
theorem dX5_enters_110 : decode cX5_enters 110 = .ok (.iload 4, 2) := by decide +kernel
theorem dX5_enters_112 : decode cX5_enters 112 = .ok (.iadd, 1) := by decide +kernel
theorem dX5_enters_113 : decode cX5_enters 113 = .ok (.aload_n 0, 1) := by decide +kernel
theorem dX5_enters_114 : decode cX5_enters 114 = .ok (.iload_n 3, 1) := by decide +kernel
theorem dX5_enters_115 : decode cX5_enters 115 = .ok (.iconst 1, 1) := by decide +kernel
theorem dX5_enters_116 : decode cX5_enters 116 = .ok (.isub, 1) := by decide +kernel
theorem dX5_enters_117 : decode cX5_enters 117 = .ok (.iload 4, 2) := by decide +kernel
theorem dX5_enters_119 : decode cX5_enters 119 = .ok (.invokevirtual 246, 3) := by decide +kernel
theorem dX5_enters_122 : decode cX5_enters 122 = .ok (.iastore, 1) := by decide +kernel
theorem dX5_enters_123 : decode cX5_enters 123 = .ok (.iinc 4 1, 3) := by decide +kernel
theorem dX5_enters_126 : decode cX5_enters 126 = .ok (.goto (-32), 3) := by decide +kernel
theorem dX5_enters_129 : decode cX5_enters 129 = .ok (.iinc 3 (-1), 3) := by decide +kernel
theorem dX5_enters_132 : decode cX5_enters 132 = .ok (.goto (-74), 3) := by decide +kernel
theorem dX5_enters_135 : decode cX5_enters 135 = .ok (.aload_n 0, 1) := by decide +kernel
theorem dX5_enters_136 : decode cX5_enters 136 = .ok (.getfield 7, 3) := by decide +kernel
theorem dX5_enters_139 : decode cX5_enters 139 = .ok (.bipush 58, 2) := by decide +kernel
theorem dX5_enters_141 : decode cX5_enters 141 = .ok (.iconst 3, 1) := by decide +kernel
theorem dX5_enters_142 : decode cX5_enters 142 = .ok (.iload_n 3, 1) := by decide +kernel
theorem dX5_enters_143 : decode cX5_enters 143 = .ok (.imul, 1) := by decide +kernel
theorem dX5_enters_144 : decode cX5_enters 144 = .ok (.iadd, 1) := by decide +kernel
theorem dX5_enters_145 : decode cX5_enters 145 = .ok (.iconst 0, 1) := by decide +kernel
theorem dX5_enters_146 : decode cX5_enters 146 = .ok (.iadd, 1) := by decide +kernel
theorem dX5_enters_147 : decode cX5_enters 147 = .ok (.aload_n 0, 1) := by decide +kernel
theorem dX5_enters_148 : decode cX5_enters 148 = .ok (.getfield 7, 3) := by decide +kernel
theorem dX5_enters_151 : decode cX5_enters 151 = .ok (.iconst 2, 1) := by decide +kernel
theorem dX5_enters_152 : decode cX5_enters 152 = .ok (.iaload, 1) := by decide +kernel
theorem dX5_enters_153 : decode cX5_enters 153 = .ok (.iastore, 1) := by decide +kernel
theorem dX5_enters_154 : decode cX5_enters 154 = .ok (.aload_n 0, 1) := by decide +kernel
theorem dX5_enters_155 : decode cX5_enters 155 = .ok (.getfield 7, 3) := by decide +kernel
theorem dX5_enters_158 : decode cX5_enters 158 = .ok (.bipush 58, 2) := by decide +kernel
theorem dX5_enters_160 : decode cX5_enters 160 = .ok (.iconst 3, 1) := by decide +kernel
theorem dX5_enters_161 : decode cX5_enters 161 = .ok (.iload_n 3, 1) := by decide +kernel
theorem dX5_enters_162 : decode cX5_enters 162 = .ok (.imul, 1) := by decide +kernel
theorem dX5_enters_163 : decode cX5_enters 163 = .ok (.iadd, 1) := by decide +kernel
theorem dX5_enters_164 : decode cX5_enters 164 = .ok (.iconst 1, 1) := by decide +kernel
theorem dX5_enters_165 : decode cX5_enters 165 = .ok (.iadd, 1) := by decide +kernel
theorem dX5_enters_166 : decode cX5_enters 166 = .ok (.iload_n 1, 1) := by decide +kernel
theorem dX5_enters_167 : decode cX5_enters 167 = .ok (.iastore, 1) := by decide +kernel
theorem dX5_enters_168 : decode cX5_enters 168 = .ok (.aload_n 0, 1) := by decide +kernel
theorem dX5_enters_169 : decode cX5_enters 169 = .ok (.getfield 7, 3) := by decide +kernel
theorem dX5_enters_172 : decode cX5_enters 172 = .ok (.bipush 58, 2) := by decide +kernel
theorem dX5_enters_174 : decode cX5_enters 174 = .ok (.iconst 3, 1) := by decide +kernel
theorem dX5_enters_175 : decode cX5_enters 175 = .ok (.iload_n 3, 1) := by decide +kernel
theorem dX5_enters_176 : decode cX5_enters 176 = .ok (.imul, 1) := by decide +kernel
theorem dX5_enters_177 : decode cX5_enters 177 = .ok (.iadd, 1) := by decide +kernel
theorem dX5_enters_178 : decode cX5_enters 178 = .ok (.iconst 2, 1) := by decide +kernel
theorem dX5_enters_179 : decode cX5_enters 179 = .ok (.iadd, 1) := by decide +kernel
theorem dX5_enters_180 : decode cX5_enters 180 = .ok (.iload_n 2, 1) := by decide +kernel
theorem dX5_enters_181 : decode cX5_enters 181 = .ok (.iastore, 1) := by decide +kernel
theorem dX5_enters_182 : decode cX5_enters 182 = .ok (.aload_n 0, 1) := by decide +kernel
theorem dX5_enters_183 : decode cX5_enters 183 = .ok (.getfield 7, 3) := by decide +kernel
theorem dX5_enters_186 : decode cX5_enters 186 = .ok (.iconst 3, 1) := by decide +kernel
theorem dX5_enters_187 : decode cX5_enters 187 = .ok (.dup2, 1) := by decide +kernel
theorem dX5_enters_188 : decode cX5_enters 188 = .ok (.iaload, 1) := by decide +kernel
theorem dX5_enters_189 : decode cX5_enters 189 = .ok (.iconst 1, 1) := by decide +kernel
theorem dX5_enters_190 : decode cX5_enters 190 = .ok (.iadd, 1) := by decide +kernel
theorem dX5_enters_191 : decode cX5_enters 191 = .ok (.iastore, 1) := by decide +kernel
theorem dX5_enters_192 : decode cX5_enters 192 = .ok (.return_, 1) := by decide +kernel
theorem dX5_entry_0 : decode cX5_entry 0 = .ok (.aload_n 0, 1) := by decide +kernel
theorem dX5_entry_1 : decode cX5_entry 1 = .ok (.getfield 7, 3) := by decide +kernel
theorem dX5_entry_4 : decode cX5_entry 4 = .ok (.bipush 58, 2) := by decide +kernel
theorem dX5_entry_6 : decode cX5_entry 6 = .ok (.iconst 3, 1) := by decide +kernel
theorem dX5_entry_7 : decode cX5_entry 7 = .ok (.iload_n 1, 1) := by decide +kernel
theorem dX5_entry_8 : decode cX5_entry 8 = .ok (.imul, 1) := by decide +kernel
theorem dX5_entry_9 : decode cX5_entry 9 = .ok (.iadd, 1) := by decide +kernel
theorem dX5_entry_10 : decode cX5_entry 10 = .ok (.iload_n 2, 1) := by decide +kernel
theorem dX5_entry_11 : decode cX5_entry 11 = .ok (.iadd, 1) := by decide +kernel
theorem dX5_entry_12 : decode cX5_entry 12 = .ok (.iaload, 1) := by decide +kernel
theorem dX5_entry_13 : decode cX5_entry 13 = .ok (.ireturn, 1) := by decide +kernel
theorem dX5_goes_0 : decode cX5_goes 0 = .ok (.bipush 34, 2) := by decide +kernel
theorem dX5_goes_2 : decode cX5_goes 2 = .ok (.bipush 6, 2) := by decide +kernel
theorem dX5_goes_4 : decode cX5_goes 4 = .ok (.iload_n 1, 1) := by decide +kernel
theorem dX5_goes_5 : decode cX5_goes 5 = .ok (.imul, 1) := by decide +kernel
theorem dX5_goes_6 : decode cX5_goes 6 = .ok (.iadd, 1) := by decide +kernel
theorem dX5_goes_7 : decode cX5_goes 7 = .ok (.istore_n 2, 1) := by decide +kernel
theorem dX5_goes_8 : decode cX5_goes 8 = .ok (.aload_n 0, 1) := by decide +kernel
theorem dX5_goes_9 : decode cX5_goes 9 = .ok (.iload_n 1, 1) := by decide +kernel
theorem dX5_goes_10 : decode cX5_goes 10 = .ok (.iconst 3, 1) := by decide +kernel
theorem dX5_goes_11 : decode cX5_goes 11 = .ok (.invokevirtual 122, 3) := by decide +kernel
theorem dX5_goes_14 : decode cX5_goes 14 = .ok (.istore_n 3, 1) := by decide +kernel
theorem dX5_goes_15 : decode cX5_goes 15 = .ok (.aload_n 0, 1) := by decide +kernel
theorem dX5_goes_16 : decode cX5_goes 16 = .ok (.iload_n 1, 1) := by decide +kernel
theorem dX5_goes_17 : decode cX5_goes 17 = .ok (.iload_n 3, 1) := by decide +kernel
theorem dX5_goes_18 : decode cX5_goes 18 = .ok (.invokevirtual 161, 3) := by decide +kernel
theorem dX5_goes_21 : decode cX5_goes 21 = .ok (.istore 4, 2) := by decide +kernel
theorem dX5_goes_23 : decode cX5_goes 23 = .ok (.aload_n 0, 1) := by decide +kernel
theorem dX5_goes_24 : decode cX5_goes 24 = .ok (.getfield 7, 3) := by decide +kernel
theorem dX5_goes_27 : decode cX5_goes 27 = .ok (.iload_n 2, 1) := by decide +kernel
theorem dX5_goes_28 : decode cX5_goes 28 = .ok (.iconst 3, 1) := by decide +kernel
theorem dX5_goes_29 : decode cX5_goes 29 = .ok (.iadd, 1) := by decide +kernel
theorem dX5_goes_30 : decode cX5_goes 30 = .ok (.iload 4, 2) := by decide +kernel
theorem dX5_goes_32 : decode cX5_goes 32 = .ok (.iastore, 1) := by decide +kernel
theorem dX5_goes_33 : decode cX5_goes 33 = .ok (.aload_n 0, 1) := by decide +kernel
theorem dX5_goes_34 : decode cX5_goes 34 = .ok (.getfield 7, 3) := by decide +kernel
theorem dX5_goes_37 : decode cX5_goes 37 = .ok (.iload_n 2, 1) := by decide +kernel
theorem dX5_goes_38 : decode cX5_goes 38 = .ok (.iconst 4, 1) := by decide +kernel
theorem dX5_goes_39 : decode cX5_goes 39 = .ok (.iadd, 1) := by decide +kernel
theorem dX5_goes_40 : decode cX5_goes 40 = .ok (.iconst 1, 1) := by decide +kernel
theorem dX5_goes_41 : decode cX5_goes 41 = .ok (.iastore, 1) := by decide +kernel
theorem dX5_goes_42 : decode cX5_goes 42 = .ok (.aload_n 0, 1) := by decide +kernel
theorem dX5_goes_43 : decode cX5_goes 43 = .ok (.getfield 7, 3) := by decide +kernel
theorem dX5_goes_46 : decode cX5_goes 46 = .ok (.iload_n 2, 1) := by decide +kernel
theorem dX5_goes_47 : decode cX5_goes 47 = .ok (.iconst 5, 1) := by decide +kernel
theorem dX5_goes_48 : decode cX5_goes 48 = .ok (.iadd, 1) := by decide +kernel
theorem dX5_goes_49 : decode cX5_goes 49 = .ok (.aload_n 0, 1) := by decide +kernel
theorem dX5_goes_50 : decode cX5_goes 50 = .ok (.getfield 7, 3) := by decide +kernel
theorem dX5_goes_53 : decode cX5_goes 53 = .ok (.iconst 2, 1) := by decide +kernel
theorem dX5_goes_54 : decode cX5_goes 54 = .ok (.iaload, 1) := by decide +kernel
theorem dX5_goes_55 : decode cX5_goes 55 = .ok (.aload_n 0, 1) := by decide +kernel
theorem dX5_goes_56 : decode cX5_goes 56 = .ok (.iload_n 3, 1) := by decide +kernel
theorem dX5_goes_57 : decode cX5_goes 57 = .ok (.iload 4, 2) := by decide +kernel
theorem dX5_goes_59 : decode cX5_goes 59 = .ok (.invokevirtual 164, 3) := by decide +kernel
theorem dX5_goes_62 : decode cX5_goes 62 = .ok (.iadd, 1) := by decide +kernel
theorem dX5_goes_63 : decode cX5_goes 63 = .ok (.iastore, 1) := by decide +kernel
theorem dX5_goes_64 : decode cX5_goes 64 = .ok (.aload_n 0, 1) := by decide +kernel
theorem dX5_goes_65 : decode cX5_goes 65 = .ok (.iload_n 1, 1) := by decide +kernel
theorem dX5_goes_66 : decode cX5_goes 66 = .ok (.iload_n 3, 1) := by decide +kernel
theorem dX5_goes_67 : decode cX5_goes 67 = .ok (.invokevirtual 249, 3) := by decide +kernel
theorem dX5_goes_70 : decode cX5_goes 70 = .ok (.return_, 1) := by decide +kernel
theorem dX5_goesOn_0 : decode cX5_goesOn 0 = .ok (.aload_n 0, 1) := by decide +kernel
theorem dX5_goesOn_1 : decode cX5_goesOn 1 = .ok (.getfield 7, 3) := by decide +kernel
theorem dX5_goesOn_4 : decode cX5_goesOn 4 = .ok (.iconst 2, 1) := by decide +kernel
theorem dX5_goesOn_5 : decode cX5_goesOn 5 = .ok (.dup2, 1) := by decide +kernel
theorem dX5_goesOn_6 : decode cX5_goesOn 6 = .ok (.iaload, 1) := by decide +kernel
theorem dX5_goesOn_7 : decode cX5_goesOn 7 = .ok (.iload_n 1, 1) := by decide +kernel
theorem dX5_goesOn_8 : decode cX5_goesOn 8 = .ok (.iadd, 1) := by decide +kernel
theorem dX5_goesOn_9 : decode cX5_goesOn 9 = .ok (.iastore, 1) := by decide +kernel
theorem dX5_goesOn_10 : decode cX5_goesOn 10 = .ok (.iconst 0, 1) := by decide +kernel
theorem dX5_goesOn_11 : decode cX5_goesOn 11 = .ok (.istore_n 2, 1) := by decide +kernel
theorem dX5_goesOn_12 : decode cX5_goesOn 12 = .ok (.iconst 0, 1) := by decide +kernel
theorem dX5_goesOn_13 : decode cX5_goesOn 13 = .ok (.istore_n 3, 1) := by decide +kernel
theorem dX5_goesOn_14 : decode cX5_goesOn 14 = .ok (.iload_n 3, 1) := by decide +kernel
theorem dX5_goesOn_15 : decode cX5_goesOn 15 = .ok (.aload_n 0, 1) := by decide +kernel
theorem dX5_goesOn_16 : decode cX5_goesOn 16 = .ok (.getfield 7, 3) := by decide +kernel
theorem dX5_goesOn_19 : decode cX5_goesOn 19 = .ok (.iconst 1, 1) := by decide +kernel
theorem dX5_goesOn_20 : decode cX5_goesOn 20 = .ok (.iaload, 1) := by decide +kernel
theorem dX5_goesOn_21 : decode cX5_goesOn 21 = .ok (.if_icmp .ge 127, 3) := by decide +kernel
theorem dX5_goesOn_24 : decode cX5_goesOn 24 = .ok (.bipush 34, 2) := by decide +kernel
theorem dX5_goesOn_26 : decode cX5_goesOn 26 = .ok (.bipush 6, 2) := by decide +kernel
theorem dX5_goesOn_28 : decode cX5_goesOn 28 = .ok (.iload_n 3, 1) := by decide +kernel
theorem dX5_goesOn_29 : decode cX5_goesOn 29 = .ok (.imul, 1) := by decide +kernel
theorem dX5_goesOn_30 : decode cX5_goesOn 30 = .ok (.iadd, 1) := by decide +kernel
theorem dX5_goesOn_31 : decode cX5_goesOn 31 = .ok (.istore 4, 2) := by decide +kernel
theorem dX5_goesOn_33 : decode cX5_goesOn 33 = .ok (.aload_n 0, 1) := by decide +kernel
theorem dX5_goesOn_34 : decode cX5_goesOn 34 = .ok (.getfield 7, 3) := by decide +kernel
theorem dX5_goesOn_37 : decode cX5_goesOn 37 = .ok (.iload 4, 2) := by decide +kernel
theorem dX5_goesOn_39 : decode cX5_goesOn 39 = .ok (.iconst 4, 1) := by decide +kernel
theorem dX5_goesOn_40 : decode cX5_goesOn 40 = .ok (.iadd, 1) := by decide +kernel
theorem dX5_goesOn_41 : decode cX5_goesOn 41 = .ok (.iaload, 1) := by decide +kernel
theorem dX5_goesOn_42 : decode cX5_goesOn 42 = .ok (.iconst 1, 1) := by decide +kernel
theorem dX5_goesOn_43 : decode cX5_goesOn 43 = .ok (.if_icmp .ne 99, 3) := by decide +kernel
theorem dX5_goesOn_46 : decode cX5_goesOn 46 = .ok (.aload_n 0, 1) := by decide +kernel
theorem dX5_goesOn_47 : decode cX5_goesOn 47 = .ok (.getfield 7, 3) := by decide +kernel
theorem dX5_goesOn_50 : decode cX5_goesOn 50 = .ok (.iload 4, 2) := by decide +kernel
theorem dX5_goesOn_52 : decode cX5_goesOn 52 = .ok (.iconst 5, 1) := by decide +kernel
theorem dX5_goesOn_53 : decode cX5_goesOn 53 = .ok (.iadd, 1) := by decide +kernel
theorem dX5_goesOn_54 : decode cX5_goesOn 54 = .ok (.iaload, 1) := by decide +kernel
theorem dX5_goesOn_55 : decode cX5_goesOn 55 = .ok (.aload_n 0, 1) := by decide +kernel
theorem dX5_goesOn_56 : decode cX5_goesOn 56 = .ok (.getfield 7, 3) := by decide +kernel
theorem dX5_goesOn_59 : decode cX5_goesOn 59 = .ok (.iconst 2, 1) := by decide +kernel
theorem dX5_goesOn_60 : decode cX5_goesOn 60 = .ok (.iaload, 1) := by decide +kernel
theorem dX5_goesOn_61 : decode cX5_goesOn 61 = .ok (.if_icmp .gt 81, 3) := by decide +kernel
theorem dX5_goesOn_64 : decode cX5_goesOn 64 = .ok (.aload_n 0, 1) := by decide +kernel
theorem dX5_goesOn_65 : decode cX5_goesOn 65 = .ok (.getfield 7, 3) := by decide +kernel
theorem dX5_goesOn_68 : decode cX5_goesOn 68 = .ok (.iload 4, 2) := by decide +kernel
theorem dX5_goesOn_70 : decode cX5_goesOn 70 = .ok (.iconst 3, 1) := by decide +kernel
theorem dX5_goesOn_71 : decode cX5_goesOn 71 = .ok (.iadd, 1) := by decide +kernel
theorem dX5_goesOn_72 : decode cX5_goesOn 72 = .ok (.iaload, 1) := by decide +kernel
theorem dX5_goesOn_73 : decode cX5_goesOn 73 = .ok (.aload_n 0, 1) := by decide +kernel
theorem dX5_goesOn_74 : decode cX5_goesOn 74 = .ok (.getfield 7, 3) := by decide +kernel
theorem dX5_goesOn_77 : decode cX5_goesOn 77 = .ok (.iload 4, 2) := by decide +kernel
theorem dX5_goesOn_79 : decode cX5_goesOn 79 = .ok (.iconst 1, 1) := by decide +kernel
theorem dX5_goesOn_80 : decode cX5_goesOn 80 = .ok (.iadd, 1) := by decide +kernel
theorem dX5_goesOn_81 : decode cX5_goesOn 81 = .ok (.iaload, 1) := by decide +kernel
theorem dX5_goesOn_82 : decode cX5_goesOn 82 = .ok (.if_icmp .ne 7, 3) := by decide +kernel
theorem dX5_goesOn_85 : decode cX5_goesOn 85 = .ok (.iconst 1, 1) := by decide +kernel
theorem dX5_goesOn_86 : decode cX5_goesOn 86 = .ok (.goto 4, 3) := by decide +kernel
theorem dX5_goesOn_89 : decode cX5_goesOn 89 = .ok (.iconst 0, 1) := by decide +kernel
theorem dX5_goesOn_90 : decode cX5_goesOn 90 = .ok (.istore 5, 2) := by decide +kernel
theorem dX5_goesOn_92 : decode cX5_goesOn 92 = .ok (.aload_n 0, 1) := by decide +kernel
theorem dX5_goesOn_93 : decode cX5_goesOn 93 = .ok (.getfield 7, 3) := by decide +kernel
theorem dX5_goesOn_96 : decode cX5_goesOn 96 = .ok (.iload 4, 2) := by decide +kernel
theorem dX5_goesOn_98 : decode cX5_goesOn 98 = .ok (.iconst 4, 1) := by decide +kernel
theorem dX5_goesOn_99 : decode cX5_goesOn 99 = .ok (.iadd, 1) := by decide +kernel
theorem dX5_goesOn_100 : decode cX5_goesOn 100 = .ok (.iload 5, 2) := by decide +kernel
theorem dX5_goesOn_102 : decode cX5_goesOn 102 = .ok (.ifCond .eq 7, 3) := by decide +kernel
theorem dX5_goesOn_105 : decode cX5_goesOn 105 = .ok (.iconst 2, 1) := by decide +kernel
theorem dX5_goesOn_106 : decode cX5_goesOn 106 = .ok (.goto 4, 3) := by decide +kernel
theorem dX5_goesOn_109 : decode cX5_goesOn 109 = .ok (.iconst 0, 1) := by decide +kernel
theorem dX5_goesOn_110 : decode cX5_goesOn 110 = .ok (.iastore, 1) := by decide +kernel
theorem dX5_goesOn_111 : decode cX5_goesOn 111 = .ok (.aload_n 0, 1) := by decide +kernel
theorem dX5_goesOn_112 : decode cX5_goesOn 112 = .ok (.getfield 7, 3) := by decide +kernel
theorem dX5_goesOn_115 : decode cX5_goesOn 115 = .ok (.iload 4, 2) := by decide +kernel
theorem dX5_goesOn_117 : decode cX5_goesOn 117 = .ok (.iconst 5, 1) := by decide +kernel
theorem dX5_goesOn_118 : decode cX5_goesOn 118 = .ok (.iadd, 1) := by decide +kernel
theorem dX5_goesOn_119 : decode cX5_goesOn 119 = .ok (.iload 5, 2) := by decide +kernel
theorem dX5_goesOn_121 : decode cX5_goesOn 121 = .ok (.ifCond .eq 15, 3) := by decide +kernel
theorem dX5_goesOn_124 : decode cX5_goesOn 124 = .ok (.aload_n 0, 1) := by decide +kernel
theorem dX5_goesOn_125 : decode cX5_goesOn 125 = .ok (.getfield 7, 3) := by decide +kernel
theorem dX5_goesOn_128 : decode cX5_goesOn 128 = .ok (.iload 4, 2) := by decide +kernel
theorem dX5_goesOn_130 : decode cX5_goesOn 130 = .ok (.iconst 5, 1) := by decide +kernel
theorem dX5_goesOn_131 : decode cX5_goesOn 131 = .ok (.iadd, 1) := by decide +kernel
theorem dX5_goesOn_132 : decode cX5_goesOn 132 = .ok (.iaload, 1) := by decide +kernel
theorem dX5_goesOn_133 : decode cX5_goesOn 133 = .ok (.goto 5, 3) := by decide +kernel
theorem dX5_goesOn_136 : decode cX5_goesOn 136 = .ok (.bipush (-4), 2) := by decide +kernel
theorem dX5_goesOn_138 : decode cX5_goesOn 138 = .ok (.iastore, 1) := by decide +kernel
theorem dX5_goesOn_139 : decode cX5_goesOn 139 = .ok (.iinc 2 1, 3) := by decide +kernel
theorem dX5_goesOn_142 : decode cX5_goesOn 142 = .ok (.iinc 3 1, 3) := by decide +kernel
theorem dX5_goesOn_145 : decode cX5_goesOn 145 = .ok (.goto (-131), 3) := by decide +kernel
theorem dX5_goesOn_148 : decode cX5_goesOn 148 = .ok (.iload_n 2, 1) := by decide +kernel
theorem dX5_goesOn_149 : decode cX5_goesOn 149 = .ok (.ireturn, 1) := by decide +kernel
theorem dX5_isAhead_0 : decode cX5_isAhead 0 = .ok (.aload_n 0, 1) := by decide +kernel
theorem dX5_isAhead_1 : decode cX5_isAhead 1 = .ok (.iload_n 2, 1) := by decide +kernel
theorem dX5_isAhead_2 : decode cX5_isAhead 2 = .ok (.invokevirtual 234, 3) := by decide +kernel
theorem dX5_isAhead_5 : decode cX5_isAhead 5 = .ok (.aload_n 0, 1) := by decide +kernel
theorem dX5_isAhead_6 : decode cX5_isAhead 6 = .ok (.iload_n 3, 1) := by decide +kernel
theorem dX5_isAhead_7 : decode cX5_isAhead 7 = .ok (.invokevirtual 234, 3) := by decide +kernel
theorem dX5_isAhead_10 : decode cX5_isAhead 10 = .ok (.isub, 1) := by decide +kernel
theorem dX5_isAhead_11 : decode cX5_isAhead 11 = .ok (.istore 4, 2) := by decide +kernel
theorem dX5_isAhead_13 : decode cX5_isAhead 13 = .ok (.iload_n 1, 1) := by decide +kernel
theorem dX5_isAhead_14 : decode cX5_isAhead 14 = .ok (.iconst 1, 1) := by decide +kernel
theorem dX5_isAhead_15 : decode cX5_isAhead 15 = .ok (.if_icmp .ne 16, 3) := by decide +kernel
theorem dX5_isAhead_18 : decode cX5_isAhead 18 = .ok (.iload 4, 2) := by decide +kernel
theorem dX5_isAhead_20 : decode cX5_isAhead 20 = .ok (.ifCond .ge 7, 3) := by decide +kernel
theorem dX5_isAhead_23 : decode cX5_isAhead 23 = .ok (.iconst 1, 1) := by decide +kernel
theorem dX5_isAhead_24 : decode cX5_isAhead 24 = .ok (.goto 22, 3) := by decide +kernel
theorem dX5_isAhead_27 : decode cX5_isAhead 27 = .ok (.iconst 0, 1) := by decide +kernel
theorem dX5_isAhead_28 : decode cX5_isAhead 28 = .ok (.goto 18, 3) := by decide +kernel
theorem dX5_isAhead_31 : decode cX5_isAhead 31 = .ok (.iload_n 1, 1) := by decide +kernel
theorem dX5_isAhead_32 : decode cX5_isAhead 32 = .ok (.iconst 2, 1) := by decide +kernel
theorem dX5_isAhead_33 : decode cX5_isAhead 33 = .ok (.if_icmp .ne 12, 3) := by decide +kernel
theorem dX5_isAhead_36 : decode cX5_isAhead 36 = .ok (.iload 4, 2) := by decide +kernel
theorem dX5_isAhead_38 : decode cX5_isAhead 38 = .ok (.ifCond .le 7, 3) := by decide +kernel
theorem dX5_isAhead_41 : decode cX5_isAhead 41 = .ok (.iconst 1, 1) := by decide +kernel
theorem dX5_isAhead_42 : decode cX5_isAhead 42 = .ok (.goto 4, 3) := by decide +kernel
theorem dX5_isAhead_45 : decode cX5_isAhead 45 = .ok (.iconst 0, 1) := by decide +kernel
theorem dX5_isAhead_46 : decode cX5_isAhead 46 = .ok (.ireturn, 1) := by decide +kernel
theorem dX5_firstBy_0 : decode cX5_firstBy 0 = .ok (.bipush (-4), 2) := by decide +kernel
theorem dX5_firstBy_2 : decode cX5_firstBy 2 = .ok (.istore_n 2, 1) := by decide +kernel
theorem dX5_firstBy_3 : decode cX5_firstBy 3 = .ok (.iconst 0, 1) := by decide +kernel
theorem dX5_firstBy_4 : decode cX5_firstBy 4 = .ok (.istore_n 3, 1) := by decide +kernel
theorem dX5_firstBy_5 : decode cX5_firstBy 5 = .ok (.iload_n 3, 1) := by decide +kernel
theorem dX5_firstBy_6 : decode cX5_firstBy 6 = .ok (.aload_n 0, 1) := by decide +kernel
theorem dX5_firstBy_7 : decode cX5_firstBy 7 = .ok (.getfield 7, 3) := by decide +kernel
theorem dX5_firstBy_10 : decode cX5_firstBy 10 = .ok (.iconst 1, 1) := by decide +kernel
theorem dX5_firstBy_11 : decode cX5_firstBy 11 = .ok (.iaload, 1) := by decide +kernel
theorem dX5_firstBy_12 : decode cX5_firstBy 12 = .ok (.if_icmp .ge 35, 3) := by decide +kernel
theorem dX5_firstBy_15 : decode cX5_firstBy 15 = .ok (.aload_n 0, 1) := by decide +kernel
theorem dX5_firstBy_16 : decode cX5_firstBy 16 = .ok (.iload_n 3, 1) := by decide +kernel
theorem dX5_firstBy_17 : decode cX5_firstBy 17 = .ok (.invokevirtual 207, 3) := by decide +kernel
theorem dX5_firstBy_20 : decode cX5_firstBy 20 = .ok (.ifCond .ne 21, 3) := by decide +kernel
theorem dX5_firstBy_23 : decode cX5_firstBy 23 = .ok (.iload_n 2, 1) := by decide +kernel
theorem dX5_firstBy_24 : decode cX5_firstBy 24 = .ok (.bipush (-4), 2) := by decide +kernel
theorem dX5_firstBy_26 : decode cX5_firstBy 26 = .ok (.if_icmp .eq 13, 3) := by decide +kernel
theorem dX5_firstBy_29 : decode cX5_firstBy 29 = .ok (.aload_n 0, 1) := by decide +kernel
theorem dX5_firstBy_30 : decode cX5_firstBy 30 = .ok (.iload_n 1, 1) := by decide +kernel
theorem dX5_firstBy_31 : decode cX5_firstBy 31 = .ok (.iload_n 3, 1) := by decide +kernel
theorem dX5_firstBy_32 : decode cX5_firstBy 32 = .ok (.iload_n 2, 1) := by decide +kernel
theorem dX5_firstBy_33 : decode cX5_firstBy 33 = .ok (.invokevirtual 253, 3) := by decide +kernel
theorem dX5_firstBy_36 : decode cX5_firstBy 36 = .ok (.ifCond .eq 5, 3) := by decide +kernel
theorem dX5_firstBy_39 : decode cX5_firstBy 39 = .ok (.iload_n 3, 1) := by decide +kernel
theorem dX5_firstBy_40 : decode cX5_firstBy 40 = .ok (.istore_n 2, 1) := by decide +kernel
theorem dX5_firstBy_41 : decode cX5_firstBy 41 = .ok (.iinc 3 1, 3) := by decide +kernel
theorem dX5_firstBy_44 : decode cX5_firstBy 44 = .ok (.goto (-39), 3) := by decide +kernel
theorem dX5_firstBy_47 : decode cX5_firstBy 47 = .ok (.iload_n 2, 1) := by decide +kernel
theorem dX5_firstBy_48 : decode cX5_firstBy 48 = .ok (.ireturn, 1) := by decide +kernel
theorem dX5_sends_0 : decode cX5_sends 0 = .ok (.iconst 0, 1) := by decide +kernel
theorem dX5_sends_1 : decode cX5_sends 1 = .ok (.istore_n 2, 1) := by decide +kernel
theorem dX5_sends_2 : decode cX5_sends 2 = .ok (.aload_n 0, 1) := by decide +kernel
theorem dX5_sends_3 : decode cX5_sends 3 = .ok (.iload_n 1, 1) := by decide +kernel
theorem dX5_sends_4 : decode cX5_sends 4 = .ok (.invokevirtual 257, 3) := by decide +kernel
theorem dX5_sends_7 : decode cX5_sends 7 = .ok (.istore_n 3, 1) := by decide +kernel
theorem dX5_sends_8 : decode cX5_sends 8 = .ok (.iload_n 3, 1) := by decide +kernel
theorem dX5_sends_9 : decode cX5_sends 9 = .ok (.bipush (-4), 2) := by decide +kernel
theorem dX5_sends_11 : decode cX5_sends 11 = .ok (.if_icmp .eq 20, 3) := by decide +kernel
theorem dX5_sends_14 : decode cX5_sends 14 = .ok (.aload_n 0, 1) := by decide +kernel
theorem dX5_sends_15 : decode cX5_sends 15 = .ok (.iload_n 3, 1) := by decide +kernel
theorem dX5_sends_16 : decode cX5_sends 16 = .ok (.invokevirtual 260, 3) := by decide +kernel
theorem dX5_sends_19 : decode cX5_sends 19 = .ok (.iinc 2 1, 3) := by decide +kernel
theorem dX5_sends_22 : decode cX5_sends 22 = .ok (.aload_n 0, 1) := by decide +kernel
theorem dX5_sends_23 : decode cX5_sends 23 = .ok (.iload_n 1, 1) := by decide +kernel
theorem dX5_sends_24 : decode cX5_sends 24 = .ok (.invokevirtual 257, 3) := by decide +kernel
theorem dX5_sends_27 : decode cX5_sends 27 = .ok (.istore_n 3, 1) := by decide +kernel
theorem dX5_sends_28 : decode cX5_sends 28 = .ok (.goto (-20), 3) := by decide +kernel
theorem dX5_sends_31 : decode cX5_sends 31 = .ok (.iload_n 2, 1) := by decide +kernel
theorem dX5_sends_32 : decode cX5_sends 32 = .ok (.ireturn, 1) := by decide +kernel
theorem dX5_planned_0 : decode cX5_planned 0 = .ok (.aload_n 0, 1) := by decide +kernel
theorem dX5_planned_1 : decode cX5_planned 1 = .ok (.invokevirtual 142, 3) := by decide +kernel
theorem dX5_planned_4 : decode cX5_planned 4 = .ok (.aload_n 0, 1) := by decide +kernel
theorem dX5_planned_5 : decode cX5_planned 5 = .ok (.aload_n 0, 1) := by decide +kernel
theorem dX5_planned_6 : decode cX5_planned 6 = .ok (.invokevirtual 126, 3) := by decide +kernel
theorem dX5_planned_9 : decode cX5_planned 9 = .ok (.invokevirtual 136, 3) := by decide +kernel
theorem dX5_planned_12 : decode cX5_planned 12 = .ok (.aload_n 0, 1) := by decide +kernel
theorem dX5_planned_13 : decode cX5_planned 13 = .ok (.iload_n 1, 1) := by decide +kernel
theorem dX5_planned_14 : decode cX5_planned 14 = .ok (.invokevirtual 263, 3) := by decide +kernel
theorem dX5_planned_17 : decode cX5_planned 17 = .ok (.pop, 1) := by decide +kernel
theorem dX5_planned_18 : decode cX5_planned 18 = .ok (.iconst 0, 1) := by decide +kernel
theorem dX5_planned_19 : decode cX5_planned 19 = .ok (.istore_n 3, 1) := by decide +kernel
theorem dX5_planned_20 : decode cX5_planned 20 = .ok (.iload_n 3, 1) := by decide +kernel
theorem dX5_planned_21 : decode cX5_planned 21 = .ok (.sipush 2000, 3) := by decide +kernel
theorem dX5_planned_24 : decode cX5_planned 24 = .ok (.if_icmp .ge 35, 3) := by decide +kernel
theorem dX5_planned_27 : decode cX5_planned 27 = .ok (.aload_n 0, 1) := by decide +kernel
theorem dX5_planned_28 : decode cX5_planned 28 = .ok (.iconst 2, 1) := by decide +kernel
theorem dX5_planned_29 : decode cX5_planned 29 = .ok (.invokevirtual 210, 3) := by decide +kernel
theorem dX5_planned_32 : decode cX5_planned 32 = .ok (.aload_n 0, 1) := by decide +kernel
theorem dX5_planned_33 : decode cX5_planned 33 = .ok (.getfield 7, 3) := by decide +kernel
theorem dX5_planned_36 : decode cX5_planned 36 = .ok (.iconst 1, 1) := by decide +kernel
theorem dX5_planned_37 : decode cX5_planned 37 = .ok (.iaload, 1) := by decide +kernel
theorem dX5_planned_38 : decode cX5_planned 38 = .ok (.if_icmp .ge 21, 3) := by decide +kernel
theorem dX5_planned_41 : decode cX5_planned 41 = .ok (.aload_n 0, 1) := by decide +kernel
theorem dX5_planned_42 : decode cX5_planned 42 = .ok (.iconst 1, 1) := by decide +kernel
theorem dX5_planned_43 : decode cX5_planned 43 = .ok (.invokevirtual 266, 3) := by decide +kernel
theorem dX5_planned_46 : decode cX5_planned 46 = .ok (.pop, 1) := by decide +kernel
theorem dX5_planned_47 : decode cX5_planned 47 = .ok (.aload_n 0, 1) := by decide +kernel
theorem dX5_planned_48 : decode cX5_planned 48 = .ok (.iload_n 1, 1) := by decide +kernel
theorem dX5_planned_49 : decode cX5_planned 49 = .ok (.invokevirtual 263, 3) := by decide +kernel
theorem dX5_planned_52 : decode cX5_planned 52 = .ok (.pop, 1) := by decide +kernel
theorem dX5_planned_53 : decode cX5_planned 53 = .ok (.iinc 3 1, 3) := by decide +kernel
theorem dX5_planned_56 : decode cX5_planned 56 = .ok (.goto (-36), 3) := by decide +kernel
theorem dX5_planned_59 : decode cX5_planned 59 = .ok (.iconst 0, 1) := by decide +kernel
theorem dX5_planned_60 : decode cX5_planned 60 = .ok (.istore_n 3, 1) := by decide +kernel
theorem dX5_planned_61 : decode cX5_planned 61 = .ok (.iconst 0, 1) := by decide +kernel
theorem dX5_planned_62 : decode cX5_planned 62 = .ok (.istore 4, 2) := by decide +kernel
theorem dX5_planned_64 : decode cX5_planned 64 = .ok (.iconst 0, 1) := by decide +kernel
theorem dX5_planned_65 : decode cX5_planned 65 = .ok (.istore 5, 2) := by decide +kernel
theorem dX5_planned_67 : decode cX5_planned 67 = .ok (.iload 5, 2) := by decide +kernel
theorem dX5_planned_69 : decode cX5_planned 69 = .ok (.aload_n 0, 1) := by decide +kernel
theorem dX5_planned_70 : decode cX5_planned 70 = .ok (.getfield 7, 3) := by decide +kernel
theorem dX5_planned_73 : decode cX5_planned 73 = .ok (.iconst 1, 1) := by decide +kernel
theorem dX5_planned_74 : decode cX5_planned 74 = .ok (.iaload, 1) := by decide +kernel
theorem dX5_planned_75 : decode cX5_planned 75 = .ok (.if_icmp .ge 44, 3) := by decide +kernel
theorem dX5_planned_78 : decode cX5_planned 78 = .ok (.iload 4, 2) := by decide +kernel
theorem dX5_planned_80 : decode cX5_planned 80 = .ok (.aload_n 0, 1) := by decide +kernel
theorem dX5_planned_81 : decode cX5_planned 81 = .ok (.iload 5, 2) := by decide +kernel
theorem dX5_planned_83 : decode cX5_planned 83 = .ok (.iconst 5, 1) := by decide +kernel
theorem dX5_planned_84 : decode cX5_planned 84 = .ok (.invokevirtual 122, 3) := by decide +kernel
theorem dX5_planned_87 : decode cX5_planned 87 = .ok (.iadd, 1) := by decide +kernel
theorem dX5_planned_88 : decode cX5_planned 88 = .ok (.istore 4, 2) := by decide +kernel
theorem dX5_planned_90 : decode cX5_planned 90 = .ok (.aload_n 0, 1) := by decide +kernel
theorem dX5_planned_91 : decode cX5_planned 91 = .ok (.iload 5, 2) := by decide +kernel
theorem dX5_planned_93 : decode cX5_planned 93 = .ok (.iconst 5, 1) := by decide +kernel
theorem dX5_planned_94 : decode cX5_planned 94 = .ok (.invokevirtual 122, 3) := by decide +kernel
theorem dX5_planned_97 : decode cX5_planned 97 = .ok (.iload_n 3, 1) := by decide +kernel
theorem dX5_planned_98 : decode cX5_planned 98 = .ok (.if_icmp .le 13, 3) := by decide +kernel
theorem dX5_planned_101 : decode cX5_planned 101 = .ok (.aload_n 0, 1) := by decide +kernel
theorem dX5_planned_102 : decode cX5_planned 102 = .ok (.iload 5, 2) := by decide +kernel
theorem dX5_planned_104 : decode cX5_planned 104 = .ok (.iconst 5, 1) := by decide +kernel
theorem dX5_planned_105 : decode cX5_planned 105 = .ok (.invokevirtual 122, 3) := by decide +kernel
theorem dX5_planned_108 : decode cX5_planned 108 = .ok (.goto 4, 3) := by decide +kernel
theorem dX5_planned_111 : decode cX5_planned 111 = .ok (.iload_n 3, 1) := by decide +kernel
theorem dX5_planned_112 : decode cX5_planned 112 = .ok (.istore_n 3, 1) := by decide +kernel
theorem dX5_planned_113 : decode cX5_planned 113 = .ok (.iinc 5 1, 3) := by decide +kernel
theorem dX5_planned_116 : decode cX5_planned 116 = .ok (.goto (-49), 3) := by decide +kernel
theorem dX5_planned_119 : decode cX5_planned 119 = .ok (.aload_n 0, 1) := by decide +kernel
theorem dX5_planned_120 : decode cX5_planned 120 = .ok (.invokevirtual 155, 3) := by decide +kernel
theorem dX5_planned_123 : decode cX5_planned 123 = .ok (.iload_n 2, 1) := by decide +kernel
theorem dX5_planned_124 : decode cX5_planned 124 = .ok (.ifCond .ne 7, 3) := by decide +kernel
theorem dX5_planned_127 : decode cX5_planned 127 = .ok (.iload_n 3, 1) := by decide +kernel
theorem dX5_planned_128 : decode cX5_planned 128 = .ok (.goto 5, 3) := by decide +kernel
theorem dX5_planned_131 : decode cX5_planned 131 = .ok (.iload 4, 2) := by decide +kernel
theorem dX5_planned_133 : decode cX5_planned 133 = .ok (.ireturn, 1) := by decide +kernel
theorem dX5_plan_0 : decode cX5_plan 0 = .ok (.iload_n 1, 1) := by decide +kernel
theorem dX5_plan_1 : decode cX5_plan 1 = .ok (.i2l, 1) := by decide +kernel
theorem dX5_plan_2 : decode cX5_plan 2 = .ok (.lconst 0, 1) := by decide +kernel
theorem dX5_plan_3 : decode cX5_plan 3 = .ok (.ldc2_w 269, 3) := by decide +kernel
theorem dX5_plan_6 : decode cX5_plan 6 = .ok (.invokestatic 55, 3) := by decide +kernel
theorem dX5_plan_9 : decode cX5_plan 9 = .ok (.ifCond .eq 22, 3) := by decide +kernel
theorem dX5_plan_12 : decode cX5_plan 12 = .ok (.iload_n 2, 1) := by decide +kernel
theorem dX5_plan_13 : decode cX5_plan 13 = .ok (.i2l, 1) := by decide +kernel
theorem dX5_plan_14 : decode cX5_plan 14 = .ok (.lconst 0, 1) := by decide +kernel
theorem dX5_plan_15 : decode cX5_plan 15 = .ok (.lconst 1, 1) := by decide +kernel
theorem dX5_plan_16 : decode cX5_plan 16 = .ok (.invokestatic 55, 3) := by decide +kernel
theorem dX5_plan_19 : decode cX5_plan 19 = .ok (.ifCond .eq 12, 3) := by decide +kernel
theorem dX5_plan_22 : decode cX5_plan 22 = .ok (.aload_n 0, 1) := by decide +kernel
theorem dX5_plan_23 : decode cX5_plan 23 = .ok (.iload_n 1, 1) := by decide +kernel
theorem dX5_plan_24 : decode cX5_plan 24 = .ok (.iload_n 2, 1) := by decide +kernel
theorem dX5_plan_25 : decode cX5_plan 25 = .ok (.invokevirtual 271, 3) := by decide +kernel
theorem dX5_plan_28 : decode cX5_plan 28 = .ok (.goto 4, 3) := by decide +kernel
theorem dX5_plan_31 : decode cX5_plan 31 = .ok (.iconst (-1), 1) := by decide +kernel
theorem dX5_plan_32 : decode cX5_plan 32 = .ok (.ireturn, 1) := by decide +kernel
theorem dX5_best_0 : decode cX5_best 0 = .ok (.aload_n 0, 1) := by decide +kernel
theorem dX5_best_1 : decode cX5_best 1 = .ok (.getfield 7, 3) := by decide +kernel
theorem dX5_best_4 : decode cX5_best 4 = .ok (.iconst 1, 1) := by decide +kernel
theorem dX5_best_5 : decode cX5_best 5 = .ok (.iaload, 1) := by decide +kernel
theorem dX5_best_6 : decode cX5_best 6 = .ok (.ifCond .ne 6, 3) := by decide +kernel
theorem dX5_best_9 : decode cX5_best 9 = .ok (.bipush (-4), 2) := by decide +kernel
theorem dX5_best_11 : decode cX5_best 11 = .ok (.ireturn, 1) := by decide +kernel
theorem dX5_best_12 : decode cX5_best 12 = .ok (.iconst 0, 1) := by decide +kernel
theorem dX5_best_13 : decode cX5_best 13 = .ok (.istore_n 1, 1) := by decide +kernel
theorem dX5_best_14 : decode cX5_best 14 = .ok (.aload_n 0, 1) := by decide +kernel
theorem dX5_best_15 : decode cX5_best 15 = .ok (.iconst 0, 1) := by decide +kernel
theorem dX5_best_16 : decode cX5_best 16 = .ok (.iconst 1, 1) := by decide +kernel
theorem dX5_best_17 : decode cX5_best 17 = .ok (.invokevirtual 271, 3) := by decide +kernel
theorem dX5_best_20 : decode cX5_best 20 = .ok (.istore_n 2, 1) := by decide +kernel
theorem dX5_best_21 : decode cX5_best 21 = .ok (.iconst 1, 1) := by decide +kernel
theorem dX5_best_22 : decode cX5_best 22 = .ok (.istore_n 3, 1) := by decide +kernel
theorem dX5_best_23 : decode cX5_best 23 = .ok (.iload_n 3, 1) := by decide +kernel
theorem dX5_best_24 : decode cX5_best 24 = .ok (.iconst 3, 1) := by decide +kernel
theorem dX5_best_25 : decode cX5_best 25 = .ok (.if_icmp .ge 28, 3) := by decide +kernel
theorem dX5_best_28 : decode cX5_best 28 = .ok (.aload_n 0, 1) := by decide +kernel
theorem dX5_best_29 : decode cX5_best 29 = .ok (.iload_n 3, 1) := by decide +kernel
theorem dX5_best_30 : decode cX5_best 30 = .ok (.iconst 1, 1) := by decide +kernel
theorem dX5_best_31 : decode cX5_best 31 = .ok (.invokevirtual 271, 3) := by decide +kernel
theorem dX5_best_34 : decode cX5_best 34 = .ok (.istore 4, 2) := by decide +kernel
theorem dX5_best_36 : decode cX5_best 36 = .ok (.iload 4, 2) := by decide +kernel
theorem dX5_best_38 : decode cX5_best 38 = .ok (.iload_n 2, 1) := by decide +kernel
theorem dX5_best_39 : decode cX5_best 39 = .ok (.if_icmp .ge 8, 3) := by decide +kernel
theorem dX5_best_42 : decode cX5_best 42 = .ok (.iload_n 3, 1) := by decide +kernel
theorem dX5_best_43 : decode cX5_best 43 = .ok (.istore_n 1, 1) := by decide +kernel
theorem dX5_best_44 : decode cX5_best 44 = .ok (.iload 4, 2) := by decide +kernel
theorem dX5_best_46 : decode cX5_best 46 = .ok (.istore_n 2, 1) := by decide +kernel
theorem dX5_best_47 : decode cX5_best 47 = .ok (.iinc 3 1, 3) := by decide +kernel
theorem dX5_best_50 : decode cX5_best 50 = .ok (.goto (-27), 3) := by decide +kernel
theorem dX5_best_53 : decode cX5_best 53 = .ok (.iload_n 1, 1) := by decide +kernel
theorem dX5_best_54 : decode cX5_best 54 = .ok (.ireturn, 1) := by decide +kernel
theorem dX5_let_0 : decode cX5_let 0 = .ok (.aload_n 0, 1) := by decide +kernel
theorem dX5_let_1 : decode cX5_let 1 = .ok (.iload_n 1, 1) := by decide +kernel
theorem dX5_let_2 : decode cX5_let 2 = .ok (.invokevirtual 231, 3) := by decide +kernel
theorem dX5_let_5 : decode cX5_let 5 = .ok (.ifCond .ne 5, 3) := by decide +kernel
theorem dX5_let_8 : decode cX5_let 8 = .ok (.iconst (-1), 1) := by decide +kernel
theorem dX5_let_9 : decode cX5_let 9 = .ok (.ireturn, 1) := by decide +kernel
theorem dX5_let_10 : decode cX5_let 10 = .ok (.aload_n 0, 1) := by decide +kernel
theorem dX5_let_11 : decode cX5_let 11 = .ok (.aload_n 0, 1) := by decide +kernel
theorem dX5_let_12 : decode cX5_let 12 = .ok (.invokevirtual 126, 3) := by decide +kernel
theorem dX5_let_15 : decode cX5_let 15 = .ok (.invokevirtual 136, 3) := by decide +kernel
theorem dX5_let_18 : decode cX5_let 18 = .ok (.aload_n 0, 1) := by decide +kernel
theorem dX5_let_19 : decode cX5_let 19 = .ok (.iload_n 1, 1) := by decide +kernel
theorem dX5_let_20 : decode cX5_let 20 = .ok (.invokevirtual 207, 3) := by decide +kernel
theorem dX5_let_23 : decode cX5_let 23 = .ok (.ifCond .eq 6, 3) := by decide +kernel
theorem dX5_let_26 : decode cX5_let 26 = .ok (.bipush (-2), 2) := by decide +kernel
theorem dX5_let_28 : decode cX5_let 28 = .ok (.ireturn, 1) := by decide +kernel
theorem dX5_let_29 : decode cX5_let 29 = .ok (.aload_n 0, 1) := by decide +kernel
theorem dX5_let_30 : decode cX5_let 30 = .ok (.iload_n 1, 1) := by decide +kernel
theorem dX5_let_31 : decode cX5_let 31 = .ok (.invokevirtual 260, 3) := by decide +kernel
theorem dX5_let_34 : decode cX5_let 34 = .ok (.aload_n 0, 1) := by decide +kernel
theorem dX5_let_35 : decode cX5_let 35 = .ok (.iload_n 1, 1) := by decide +kernel
theorem dX5_let_36 : decode cX5_let 36 = .ok (.iconst 5, 1) := by decide +kernel
theorem dX5_let_37 : decode cX5_let 37 = .ok (.invokevirtual 122, 3) := by decide +kernel
theorem dX5_let_40 : decode cX5_let 40 = .ok (.ireturn, 1) := by decide +kernel
theorem dX5_tick_0 : decode cX5_tick 0 = .ok (.iload_n 1, 1) := by decide +kernel
theorem dX5_tick_1 : decode cX5_tick 1 = .ok (.i2l, 1) := by decide +kernel
theorem dX5_tick_2 : decode cX5_tick 2 = .ok (.lconst 1, 1) := by decide +kernel
theorem dX5_tick_3 : decode cX5_tick 3 = .ok (.ldc2_w 274, 3) := by decide +kernel
theorem dX5_tick_6 : decode cX5_tick 6 = .ok (.invokestatic 55, 3) := by decide +kernel
theorem dX5_tick_9 : decode cX5_tick 9 = .ok (.ifCond .eq 11, 3) := by decide +kernel
theorem dX5_tick_12 : decode cX5_tick 12 = .ok (.aload_n 0, 1) := by decide +kernel
theorem dX5_tick_13 : decode cX5_tick 13 = .ok (.iload_n 1, 1) := by decide +kernel
theorem dX5_tick_14 : decode cX5_tick 14 = .ok (.invokevirtual 266, 3) := by decide +kernel
theorem dX5_tick_17 : decode cX5_tick 17 = .ok (.goto 4, 3) := by decide +kernel
theorem dX5_tick_20 : decode cX5_tick 20 = .ok (.iconst (-1), 1) := by decide +kernel
theorem dX5_tick_21 : decode cX5_tick 21 = .ok (.ireturn, 1) := by decide +kernel
theorem dX5_send_0 : decode cX5_send 0 = .ok (.iload_n 1, 1) := by decide +kernel
theorem dX5_send_1 : decode cX5_send 1 = .ok (.i2l, 1) := by decide +kernel
theorem dX5_send_2 : decode cX5_send 2 = .ok (.lconst 0, 1) := by decide +kernel
theorem dX5_send_3 : decode cX5_send 3 = .ok (.ldc2_w 269, 3) := by decide +kernel
theorem dX5_send_6 : decode cX5_send 6 = .ok (.invokestatic 55, 3) := by decide +kernel
theorem dX5_send_9 : decode cX5_send 9 = .ok (.ifCond .ne 5, 3) := by decide +kernel
theorem dX5_send_12 : decode cX5_send 12 = .ok (.iconst (-1), 1) := by decide +kernel
theorem dX5_send_13 : decode cX5_send 13 = .ok (.ireturn, 1) := by decide +kernel
theorem dX5_send_14 : decode cX5_send 14 = .ok (.aload_n 0, 1) := by decide +kernel
theorem dX5_send_15 : decode cX5_send 15 = .ok (.aload_n 0, 1) := by decide +kernel
theorem dX5_send_16 : decode cX5_send 16 = .ok (.invokevirtual 126, 3) := by decide +kernel
theorem dX5_send_19 : decode cX5_send 19 = .ok (.invokevirtual 136, 3) := by decide +kernel
theorem dX5_send_22 : decode cX5_send 22 = .ok (.aload_n 0, 1) := by decide +kernel
theorem dX5_send_23 : decode cX5_send 23 = .ok (.iload_n 1, 1) := by decide +kernel
theorem dX5_send_24 : decode cX5_send 24 = .ok (.invokevirtual 263, 3) := by decide +kernel
theorem dX5_send_27 : decode cX5_send 27 = .ok (.ireturn, 1) := by decide +kernel
theorem dX5_journal_0 : decode cX5_journal 0 = .ok (.iload_n 1, 1) := by decide +kernel
theorem dX5_journal_1 : decode cX5_journal 1 = .ok (.ifCond .lt 15, 3) := by decide +kernel
theorem dX5_journal_4 : decode cX5_journal 4 = .ok (.iload_n 2, 1) := by decide +kernel
theorem dX5_journal_5 : decode cX5_journal 5 = .ok (.i2l, 1) := by decide +kernel
theorem dX5_journal_6 : decode cX5_journal 6 = .ok (.lconst 0, 1) := by decide +kernel
theorem dX5_journal_7 : decode cX5_journal 7 = .ok (.ldc2_w 269, 3) := by decide +kernel
theorem dX5_journal_10 : decode cX5_journal 10 = .ok (.invokestatic 55, 3) := by decide +kernel
theorem dX5_journal_13 : decode cX5_journal 13 = .ok (.ifCond .ne 5, 3) := by decide +kernel
theorem dX5_journal_16 : decode cX5_journal 16 = .ok (.iconst (-1), 1) := by decide +kernel
theorem dX5_journal_17 : decode cX5_journal 17 = .ok (.ireturn, 1) := by decide +kernel
theorem dX5_journal_18 : decode cX5_journal 18 = .ok (.iload_n 1, 1) := by decide +kernel
theorem dX5_journal_19 : decode cX5_journal 19 = .ok (.aload_n 0, 1) := by decide +kernel
theorem dX5_journal_20 : decode cX5_journal 20 = .ok (.getfield 7, 3) := by decide +kernel
theorem dX5_journal_23 : decode cX5_journal 23 = .ok (.iconst 3, 1) := by decide +kernel
theorem dX5_journal_24 : decode cX5_journal 24 = .ok (.iaload, 1) := by decide +kernel
theorem dX5_journal_25 : decode cX5_journal 25 = .ok (.if_icmp .ge 12, 3) := by decide +kernel
theorem dX5_journal_28 : decode cX5_journal 28 = .ok (.aload_n 0, 1) := by decide +kernel
theorem dX5_journal_29 : decode cX5_journal 29 = .ok (.iload_n 1, 1) := by decide +kernel
theorem dX5_journal_30 : decode cX5_journal 30 = .ok (.iload_n 2, 1) := by decide +kernel
theorem dX5_journal_31 : decode cX5_journal 31 = .ok (.invokevirtual 246, 3) := by decide +kernel
theorem dX5_journal_34 : decode cX5_journal 34 = .ok (.goto 5, 3) := by decide +kernel
theorem dX5_journal_37 : decode cX5_journal 37 = .ok (.bipush (-4), 2) := by decide +kernel
theorem dX5_journal_39 : decode cX5_journal 39 = .ok (.ireturn, 1) := by decide +kernel
theorem dX5_isGood_0 : decode cX5_isGood 0 = .ok (.aload_n 0, 1) := by decide +kernel
theorem dX5_isGood_1 : decode cX5_isGood 1 = .ok (.iload_n 1, 1) := by decide +kernel
theorem dX5_isGood_2 : decode cX5_isGood 2 = .ok (.invokevirtual 222, 3) := by decide +kernel
theorem dX5_isGood_5 : decode cX5_isGood 5 = .ok (.ifCond .eq 32, 3) := by decide +kernel
theorem dX5_isGood_8 : decode cX5_isGood 8 = .ok (.aload_n 0, 1) := by decide +kernel
theorem dX5_isGood_9 : decode cX5_isGood 9 = .ok (.iload_n 2, 1) := by decide +kernel
theorem dX5_isGood_10 : decode cX5_isGood 10 = .ok (.invokevirtual 222, 3) := by decide +kernel
theorem dX5_isGood_13 : decode cX5_isGood 13 = .ok (.ifCond .eq 24, 3) := by decide +kernel
theorem dX5_isGood_16 : decode cX5_isGood 16 = .ok (.iload_n 1, 1) := by decide +kernel
theorem dX5_isGood_17 : decode cX5_isGood 17 = .ok (.iload_n 2, 1) := by decide +kernel
theorem dX5_isGood_18 : decode cX5_isGood 18 = .ok (.if_icmp .eq 19, 3) := by decide +kernel
theorem dX5_isGood_21 : decode cX5_isGood 21 = .ok (.iload_n 3, 1) := by decide +kernel
theorem dX5_isGood_22 : decode cX5_isGood 22 = .ok (.i2l, 1) := by decide +kernel
theorem dX5_isGood_23 : decode cX5_isGood 23 = .ok (.lconst 1, 1) := by decide +kernel
theorem dX5_isGood_24 : decode cX5_isGood 24 = .ok (.ldc2_w 276, 3) := by decide +kernel
theorem dX5_isGood_27 : decode cX5_isGood 27 = .ok (.invokestatic 55, 3) := by decide +kernel
theorem dX5_isGood_30 : decode cX5_isGood 30 = .ok (.ifCond .eq 7, 3) := by decide +kernel
theorem dX5_isGood_33 : decode cX5_isGood 33 = .ok (.iconst 1, 1) := by decide +kernel
theorem dX5_isGood_34 : decode cX5_isGood 34 = .ok (.goto 4, 3) := by decide +kernel
theorem dX5_isGood_37 : decode cX5_isGood 37 = .ok (.iconst 0, 1) := by decide +kernel
theorem dX5_isGood_38 : decode cX5_isGood 38 = .ok (.ireturn, 1) := by decide +kernel
theorem dX5_add_0 : decode cX5_add 0 = .ok (.aload_n 0, 1) := by decide +kernel
theorem dX5_add_1 : decode cX5_add 1 = .ok (.iload_n 1, 1) := by decide +kernel
theorem dX5_add_2 : decode cX5_add 2 = .ok (.iload_n 2, 1) := by decide +kernel
theorem dX5_add_3 : decode cX5_add 3 = .ok (.iload_n 3, 1) := by decide +kernel
theorem dX5_add_4 : decode cX5_add 4 = .ok (.invokevirtual 278, 3) := by decide +kernel
theorem dX5_add_7 : decode cX5_add 7 = .ok (.ifCond .ne 5, 3) := by decide +kernel
theorem dX5_add_10 : decode cX5_add 10 = .ok (.iconst (-1), 1) := by decide +kernel
theorem dX5_add_11 : decode cX5_add 11 = .ok (.ireturn, 1) := by decide +kernel
theorem dX5_add_12 : decode cX5_add 12 = .ok (.aload_n 0, 1) := by decide +kernel
theorem dX5_add_13 : decode cX5_add 13 = .ok (.getfield 7, 3) := by decide +kernel
theorem dX5_add_16 : decode cX5_add 16 = .ok (.iconst 1, 1) := by decide +kernel
theorem dX5_add_17 : decode cX5_add 17 = .ok (.iaload, 1) := by decide +kernel
theorem dX5_add_18 : decode cX5_add 18 = .ok (.iconst 4, 1) := by decide +kernel
theorem dX5_add_19 : decode cX5_add 19 = .ok (.if_icmp .ne 6, 3) := by decide +kernel
theorem dX5_add_22 : decode cX5_add 22 = .ok (.bipush (-3), 2) := by decide +kernel
theorem dX5_add_24 : decode cX5_add 24 = .ok (.ireturn, 1) := by decide +kernel
theorem dX5_add_25 : decode cX5_add 25 = .ok (.bipush 34, 2) := by decide +kernel
theorem dX5_add_27 : decode cX5_add 27 = .ok (.bipush 6, 2) := by decide +kernel
theorem dX5_add_29 : decode cX5_add 29 = .ok (.aload_n 0, 1) := by decide +kernel
theorem dX5_add_30 : decode cX5_add 30 = .ok (.getfield 7, 3) := by decide +kernel
theorem dX5_add_33 : decode cX5_add 33 = .ok (.iconst 1, 1) := by decide +kernel
theorem dX5_add_34 : decode cX5_add 34 = .ok (.iaload, 1) := by decide +kernel
theorem dX5_add_35 : decode cX5_add 35 = .ok (.imul, 1) := by decide +kernel
theorem dX5_add_36 : decode cX5_add 36 = .ok (.iadd, 1) := by decide +kernel
theorem dX5_add_37 : decode cX5_add 37 = .ok (.istore 4, 2) := by decide +kernel
theorem dX5_add_39 : decode cX5_add 39 = .ok (.aload_n 0, 1) := by decide +kernel
theorem dX5_add_40 : decode cX5_add 40 = .ok (.getfield 7, 3) := by decide +kernel
theorem dX5_add_43 : decode cX5_add 43 = .ok (.iload 4, 2) := by decide +kernel
theorem dX5_add_45 : decode cX5_add 45 = .ok (.iconst 0, 1) := by decide +kernel
theorem dX5_add_46 : decode cX5_add 46 = .ok (.iadd, 1) := by decide +kernel
theorem dX5_add_47 : decode cX5_add 47 = .ok (.iload_n 1, 1) := by decide +kernel
theorem dX5_add_48 : decode cX5_add 48 = .ok (.iastore, 1) := by decide +kernel
theorem dX5_add_49 : decode cX5_add 49 = .ok (.aload_n 0, 1) := by decide +kernel
theorem dX5_add_50 : decode cX5_add 50 = .ok (.getfield 7, 3) := by decide +kernel
theorem dX5_add_53 : decode cX5_add 53 = .ok (.iload 4, 2) := by decide +kernel
theorem dX5_add_55 : decode cX5_add 55 = .ok (.iconst 1, 1) := by decide +kernel
theorem dX5_add_56 : decode cX5_add 56 = .ok (.iadd, 1) := by decide +kernel
theorem dX5_add_57 : decode cX5_add 57 = .ok (.iload_n 2, 1) := by decide +kernel
theorem dX5_add_58 : decode cX5_add 58 = .ok (.iastore, 1) := by decide +kernel
theorem dX5_add_59 : decode cX5_add 59 = .ok (.aload_n 0, 1) := by decide +kernel
theorem dX5_add_60 : decode cX5_add 60 = .ok (.getfield 7, 3) := by decide +kernel
theorem dX5_add_63 : decode cX5_add 63 = .ok (.iload 4, 2) := by decide +kernel
theorem dX5_add_65 : decode cX5_add 65 = .ok (.iconst 2, 1) := by decide +kernel
theorem dX5_add_66 : decode cX5_add 66 = .ok (.iadd, 1) := by decide +kernel
theorem dX5_add_67 : decode cX5_add 67 = .ok (.iload_n 3, 1) := by decide +kernel
theorem dX5_add_68 : decode cX5_add 68 = .ok (.iastore, 1) := by decide +kernel
theorem dX5_add_69 : decode cX5_add 69 = .ok (.aload_n 0, 1) := by decide +kernel
theorem dX5_add_70 : decode cX5_add 70 = .ok (.getfield 7, 3) := by decide +kernel
theorem dX5_add_73 : decode cX5_add 73 = .ok (.iload 4, 2) := by decide +kernel
theorem dX5_add_75 : decode cX5_add 75 = .ok (.iconst 3, 1) := by decide +kernel
theorem dX5_add_76 : decode cX5_add 76 = .ok (.iadd, 1) := by decide +kernel
theorem dX5_add_77 : decode cX5_add 77 = .ok (.iload_n 1, 1) := by decide +kernel
theorem dX5_add_78 : decode cX5_add 78 = .ok (.iastore, 1) := by decide +kernel
theorem dX5_add_79 : decode cX5_add 79 = .ok (.aload_n 0, 1) := by decide +kernel
theorem dX5_add_80 : decode cX5_add 80 = .ok (.getfield 7, 3) := by decide +kernel
theorem dX5_add_83 : decode cX5_add 83 = .ok (.iload 4, 2) := by decide +kernel
theorem dX5_add_85 : decode cX5_add 85 = .ok (.iconst 4, 1) := by decide +kernel
theorem dX5_add_86 : decode cX5_add 86 = .ok (.iadd, 1) := by decide +kernel
theorem dX5_add_87 : decode cX5_add 87 = .ok (.iconst 0, 1) := by decide +kernel
theorem dX5_add_88 : decode cX5_add 88 = .ok (.iastore, 1) := by decide +kernel
theorem dX5_add_89 : decode cX5_add 89 = .ok (.aload_n 0, 1) := by decide +kernel
theorem dX5_add_90 : decode cX5_add 90 = .ok (.getfield 7, 3) := by decide +kernel
theorem dX5_add_93 : decode cX5_add 93 = .ok (.iload 4, 2) := by decide +kernel
theorem dX5_add_95 : decode cX5_add 95 = .ok (.iconst 5, 1) := by decide +kernel
theorem dX5_add_96 : decode cX5_add 96 = .ok (.iadd, 1) := by decide +kernel
theorem dX5_add_97 : decode cX5_add 97 = .ok (.bipush (-4), 2) := by decide +kernel
theorem dX5_add_99 : decode cX5_add 99 = .ok (.iastore, 1) := by decide +kernel
theorem dX5_add_100 : decode cX5_add 100 = .ok (.aload_n 0, 1) := by decide +kernel
theorem dX5_add_101 : decode cX5_add 101 = .ok (.getfield 7, 3) := by decide +kernel
theorem dX5_add_104 : decode cX5_add 104 = .ok (.iconst 1, 1) := by decide +kernel
theorem dX5_add_105 : decode cX5_add 105 = .ok (.dup2, 1) := by decide +kernel
theorem dX5_add_106 : decode cX5_add 106 = .ok (.iaload, 1) := by decide +kernel
theorem dX5_add_107 : decode cX5_add 107 = .ok (.iconst 1, 1) := by decide +kernel
theorem dX5_add_108 : decode cX5_add 108 = .ok (.iadd, 1) := by decide +kernel
theorem dX5_add_109 : decode cX5_add 109 = .ok (.iastore, 1) := by decide +kernel
theorem dX5_add_110 : decode cX5_add 110 = .ok (.aload_n 0, 1) := by decide +kernel
theorem dX5_add_111 : decode cX5_add 111 = .ok (.invokevirtual 149, 3) := by decide +kernel
theorem dX5_add_114 : decode cX5_add 114 = .ok (.ifCond .eq 10, 3) := by decide +kernel
theorem dX5_add_117 : decode cX5_add 117 = .ok (.aload_n 0, 1) := by decide +kernel
theorem dX5_add_118 : decode cX5_add 118 = .ok (.invokevirtual 152, 3) := by decide +kernel
theorem dX5_add_121 : decode cX5_add 121 = .ok (.ifCond .ne 16, 3) := by decide +kernel
theorem dX5_add_124 : decode cX5_add 124 = .ok (.aload_n 0, 1) := by decide +kernel
theorem dX5_add_125 : decode cX5_add 125 = .ok (.getfield 7, 3) := by decide +kernel
theorem dX5_add_128 : decode cX5_add 128 = .ok (.iconst 1, 1) := by decide +kernel
theorem dX5_add_129 : decode cX5_add 129 = .ok (.dup2, 1) := by decide +kernel
theorem dX5_add_130 : decode cX5_add 130 = .ok (.iaload, 1) := by decide +kernel
theorem dX5_add_131 : decode cX5_add 131 = .ok (.iconst 1, 1) := by decide +kernel
theorem dX5_add_132 : decode cX5_add 132 = .ok (.isub, 1) := by decide +kernel
theorem dX5_add_133 : decode cX5_add 133 = .ok (.iastore, 1) := by decide +kernel
theorem dX5_add_134 : decode cX5_add 134 = .ok (.bipush (-2), 2) := by decide +kernel
theorem dX5_add_136 : decode cX5_add 136 = .ok (.ireturn, 1) := by decide +kernel
theorem dX5_add_137 : decode cX5_add 137 = .ok (.aload_n 0, 1) := by decide +kernel
theorem dX5_add_138 : decode cX5_add 138 = .ok (.getfield 7, 3) := by decide +kernel
theorem dX5_add_141 : decode cX5_add 141 = .ok (.iconst 1, 1) := by decide +kernel
theorem dX5_add_142 : decode cX5_add 142 = .ok (.iaload, 1) := by decide +kernel
theorem dX5_add_143 : decode cX5_add 143 = .ok (.ireturn, 1) := by decide +kernel
theorem dX5_leavesJournal_0 : decode cX5_leavesJournal 0 = .ok (.iconst 0, 1) := by decide +kernel
theorem dX5_leavesJournal_1 : decode cX5_leavesJournal 1 = .ok (.istore_n 2, 1) := by decide +kernel
theorem dX5_leavesJournal_2 : decode cX5_leavesJournal 2 = .ok (.iconst 0, 1) := by decide +kernel
theorem dX5_leavesJournal_3 : decode cX5_leavesJournal 3 = .ok (.istore_n 3, 1) := by decide +kernel
theorem dX5_leavesJournal_4 : decode cX5_leavesJournal 4 = .ok (.iload_n 3, 1) := by decide +kernel
theorem dX5_leavesJournal_5 : decode cX5_leavesJournal 5 = .ok (.aload_n 0, 1) := by decide +kernel
theorem dX5_leavesJournal_6 : decode cX5_leavesJournal 6 = .ok (.getfield 7, 3) := by decide +kernel
theorem dX5_leavesJournal_9 : decode cX5_leavesJournal 9 = .ok (.iconst 3, 1) := by decide +kernel
theorem dX5_leavesJournal_10 : decode cX5_leavesJournal 10 = .ok (.iaload, 1) := by decide +kernel
theorem dX5_leavesJournal_11 : decode cX5_leavesJournal 11 = .ok (.if_icmp .ge 100, 3) := by decide +kernel
theorem dX5_leavesJournal_14 : decode cX5_leavesJournal 14 = .ok (.aload_n 0, 1) := by decide +kernel
theorem dX5_leavesJournal_15 : decode cX5_leavesJournal 15 = .ok (.iload_n 3, 1) := by decide +kernel
theorem dX5_leavesJournal_16 : decode cX5_leavesJournal 16 = .ok (.iconst 1, 1) := by decide +kernel
theorem dX5_leavesJournal_17 : decode cX5_leavesJournal 17 = .ok (.invokevirtual 246, 3) := by decide +kernel
theorem dX5_leavesJournal_20 : decode cX5_leavesJournal 20 = .ok (.istore 4, 2) := by decide +kernel
theorem dX5_leavesJournal_22 : decode cX5_leavesJournal 22 = .ok (.iload 4, 2) := by decide +kernel
theorem dX5_leavesJournal_24 : decode cX5_leavesJournal 24 = .ok (.iload_n 1, 1) := by decide +kernel
theorem dX5_leavesJournal_25 : decode cX5_leavesJournal 25 = .ok (.if_icmp .eq 80, 3) := by decide +kernel
theorem dX5_leavesJournal_28 : decode cX5_leavesJournal 28 = .ok (.aload_n 0, 1) := by decide +kernel
theorem dX5_leavesJournal_29 : decode cX5_leavesJournal 29 = .ok (.iload_n 3, 1) := by decide +kernel
theorem dX5_leavesJournal_30 : decode cX5_leavesJournal 30 = .ok (.iconst 0, 1) := by decide +kernel
theorem dX5_leavesJournal_31 : decode cX5_leavesJournal 31 = .ok (.invokevirtual 246, 3) := by decide +kernel
theorem dX5_leavesJournal_34 : decode cX5_leavesJournal 34 = .ok (.istore 5, 2) := by decide +kernel
theorem dX5_leavesJournal_36 : decode cX5_leavesJournal 36 = .ok (.aload_n 0, 1) := by decide +kernel
theorem dX5_leavesJournal_37 : decode cX5_leavesJournal 37 = .ok (.iload_n 3, 1) := by decide +kernel
theorem dX5_leavesJournal_38 : decode cX5_leavesJournal 38 = .ok (.iconst 2, 1) := by decide +kernel
theorem dX5_leavesJournal_39 : decode cX5_leavesJournal 39 = .ok (.invokevirtual 246, 3) := by decide +kernel
theorem dX5_leavesJournal_42 : decode cX5_leavesJournal 42 = .ok (.istore 6, 2) := by decide +kernel
theorem dX5_leavesJournal_44 : decode cX5_leavesJournal 44 = .ok (.aload_n 0, 1) := by decide +kernel
theorem dX5_leavesJournal_45 : decode cX5_leavesJournal 45 = .ok (.getfield 7, 3) := by decide +kernel
theorem dX5_leavesJournal_48 : decode cX5_leavesJournal 48 = .ok (.bipush 58, 2) := by decide +kernel
theorem dX5_leavesJournal_50 : decode cX5_leavesJournal 50 = .ok (.iconst 3, 1) := by decide +kernel
theorem dX5_leavesJournal_51 : decode cX5_leavesJournal 51 = .ok (.iload_n 2, 1) := by decide +kernel
theorem dX5_leavesJournal_52 : decode cX5_leavesJournal 52 = .ok (.imul, 1) := by decide +kernel
theorem dX5_leavesJournal_53 : decode cX5_leavesJournal 53 = .ok (.iadd, 1) := by decide +kernel
theorem dX5_leavesJournal_54 : decode cX5_leavesJournal 54 = .ok (.iconst 0, 1) := by decide +kernel
theorem dX5_leavesJournal_55 : decode cX5_leavesJournal 55 = .ok (.iadd, 1) := by decide +kernel
theorem dX5_leavesJournal_56 : decode cX5_leavesJournal 56 = .ok (.iload 5, 2) := by decide +kernel
theorem dX5_leavesJournal_58 : decode cX5_leavesJournal 58 = .ok (.iastore, 1) := by decide +kernel
theorem dX5_leavesJournal_59 : decode cX5_leavesJournal 59 = .ok (.aload_n 0, 1) := by decide +kernel
theorem dX5_leavesJournal_60 : decode cX5_leavesJournal 60 = .ok (.getfield 7, 3) := by decide +kernel
theorem dX5_leavesJournal_63 : decode cX5_leavesJournal 63 = .ok (.bipush 58, 2) := by decide +kernel
theorem dX5_leavesJournal_65 : decode cX5_leavesJournal 65 = .ok (.iconst 3, 1) := by decide +kernel
theorem dX5_leavesJournal_66 : decode cX5_leavesJournal 66 = .ok (.iload_n 2, 1) := by decide +kernel
theorem dX5_leavesJournal_67 : decode cX5_leavesJournal 67 = .ok (.imul, 1) := by decide +kernel
theorem dX5_leavesJournal_68 : decode cX5_leavesJournal 68 = .ok (.iadd, 1) := by decide +kernel
theorem dX5_leavesJournal_69 : decode cX5_leavesJournal 69 = .ok (.iconst 1, 1) := by decide +kernel
theorem dX5_leavesJournal_70 : decode cX5_leavesJournal 70 = .ok (.iadd, 1) := by decide +kernel
theorem dX5_leavesJournal_71 : decode cX5_leavesJournal 71 = .ok (.iload 4, 2) := by decide +kernel
theorem dX5_leavesJournal_73 : decode cX5_leavesJournal 73 = .ok (.iload_n 1, 1) := by decide +kernel
theorem dX5_leavesJournal_74 : decode cX5_leavesJournal 74 = .ok (.if_icmp .le 10, 3) := by decide +kernel
theorem dX5_leavesJournal_77 : decode cX5_leavesJournal 77 = .ok (.iload 4, 2) := by decide +kernel
theorem dX5_leavesJournal_79 : decode cX5_leavesJournal 79 = .ok (.iconst 1, 1) := by decide +kernel
theorem dX5_leavesJournal_80 : decode cX5_leavesJournal 80 = .ok (.isub, 1) := by decide +kernel
theorem dX5_leavesJournal_81 : decode cX5_leavesJournal 81 = .ok (.goto 5, 3) := by decide +kernel
theorem dX5_leavesJournal_84 : decode cX5_leavesJournal 84 = .ok (.iload 4, 2) := by decide +kernel
theorem dX5_leavesJournal_86 : decode cX5_leavesJournal 86 = .ok (.iastore, 1) := by decide +kernel
theorem dX5_leavesJournal_87 : decode cX5_leavesJournal 87 = .ok (.aload_n 0, 1) := by decide +kernel
theorem dX5_leavesJournal_88 : decode cX5_leavesJournal 88 = .ok (.getfield 7, 3) := by decide +kernel
theorem dX5_leavesJournal_91 : decode cX5_leavesJournal 91 = .ok (.bipush 58, 2) := by decide +kernel
theorem dX5_leavesJournal_93 : decode cX5_leavesJournal 93 = .ok (.iconst 3, 1) := by decide +kernel
theorem dX5_leavesJournal_94 : decode cX5_leavesJournal 94 = .ok (.iload_n 2, 1) := by decide +kernel
theorem dX5_leavesJournal_95 : decode cX5_leavesJournal 95 = .ok (.imul, 1) := by decide +kernel
theorem dX5_leavesJournal_96 : decode cX5_leavesJournal 96 = .ok (.iadd, 1) := by decide +kernel
theorem dX5_leavesJournal_97 : decode cX5_leavesJournal 97 = .ok (.iconst 2, 1) := by decide +kernel
theorem dX5_leavesJournal_98 : decode cX5_leavesJournal 98 = .ok (.iadd, 1) := by decide +kernel
theorem dX5_leavesJournal_99 : decode cX5_leavesJournal 99 = .ok (.iload 6, 2) := by decide +kernel
theorem dX5_leavesJournal_101 : decode cX5_leavesJournal 101 = .ok (.iastore, 1) := by decide +kernel
theorem dX5_leavesJournal_102 : decode cX5_leavesJournal 102 = .ok (.iinc 2 1, 3) := by decide +kernel
theorem dX5_leavesJournal_105 : decode cX5_leavesJournal 105 = .ok (.iinc 3 1, 3) := by decide +kernel
theorem dX5_leavesJournal_108 : decode cX5_leavesJournal 108 = .ok (.goto (-104), 3) := by decide +kernel
theorem dX5_leavesJournal_111 : decode cX5_leavesJournal 111 = .ok (.aload_n 0, 1) := by decide +kernel
theorem dX5_leavesJournal_112 : decode cX5_leavesJournal 112 = .ok (.getfield 7, 3) := by decide +kernel
theorem dX5_leavesJournal_115 : decode cX5_leavesJournal 115 = .ok (.iconst 3, 1) := by decide +kernel
theorem dX5_leavesJournal_116 : decode cX5_leavesJournal 116 = .ok (.iload_n 2, 1) := by decide +kernel
theorem dX5_leavesJournal_117 : decode cX5_leavesJournal 117 = .ok (.iastore, 1) := by decide +kernel
theorem dX5_leavesJournal_118 : decode cX5_leavesJournal 118 = .ok (.return_, 1) := by decide +kernel
theorem dX5_drop_0 : decode cX5_drop 0 = .ok (.aload_n 0, 1) := by decide +kernel
theorem dX5_drop_1 : decode cX5_drop 1 = .ok (.iload_n 1, 1) := by decide +kernel
theorem dX5_drop_2 : decode cX5_drop 2 = .ok (.invokevirtual 231, 3) := by decide +kernel
theorem dX5_drop_5 : decode cX5_drop 5 = .ok (.ifCond .ne 5, 3) := by decide +kernel
theorem dX5_drop_8 : decode cX5_drop 8 = .ok (.iconst (-1), 1) := by decide +kernel
theorem dX5_drop_9 : decode cX5_drop 9 = .ok (.ireturn, 1) := by decide +kernel
theorem dX5_drop_10 : decode cX5_drop 10 = .ok (.aload_n 0, 1) := by decide +kernel
theorem dX5_drop_11 : decode cX5_drop 11 = .ok (.iload_n 1, 1) := by decide +kernel
theorem dX5_drop_12 : decode cX5_drop 12 = .ok (.iconst 4, 1) := by decide +kernel
theorem dX5_drop_13 : decode cX5_drop 13 = .ok (.invokevirtual 122, 3) := by decide +kernel
theorem dX5_drop_16 : decode cX5_drop 16 = .ok (.iconst 1, 1) := by decide +kernel
theorem dX5_drop_17 : decode cX5_drop 17 = .ok (.if_icmp .ne 6, 3) := by decide +kernel
theorem dX5_drop_20 : decode cX5_drop 20 = .ok (.bipush (-2), 2) := by decide +kernel
theorem dX5_drop_22 : decode cX5_drop 22 = .ok (.ireturn, 1) := by decide +kernel
theorem dX5_drop_23 : decode cX5_drop 23 = .ok (.bipush 34, 2) := by decide +kernel
theorem dX5_drop_25 : decode cX5_drop 25 = .ok (.bipush 6, 2) := by decide +kernel
theorem dX5_drop_27 : decode cX5_drop 27 = .ok (.iload_n 1, 1) := by decide +kernel
theorem dX5_drop_28 : decode cX5_drop 28 = .ok (.imul, 1) := by decide +kernel
theorem dX5_drop_29 : decode cX5_drop 29 = .ok (.iadd, 1) := by decide +kernel
theorem dX5_drop_30 : decode cX5_drop 30 = .ok (.istore_n 2, 1) := by decide +kernel
theorem dX5_drop_31 : decode cX5_drop 31 = .ok (.iload_n 2, 1) := by decide +kernel
theorem dX5_drop_32 : decode cX5_drop 32 = .ok (.bipush 34, 2) := by decide +kernel
theorem dX5_drop_34 : decode cX5_drop 34 = .ok (.bipush 6, 2) := by decide +kernel
theorem dX5_drop_36 : decode cX5_drop 36 = .ok (.aload_n 0, 1) := by decide +kernel
theorem dX5_drop_37 : decode cX5_drop 37 = .ok (.getfield 7, 3) := by decide +kernel
theorem dX5_drop_40 : decode cX5_drop 40 = .ok (.iconst 1, 1) := by decide +kernel
theorem dX5_drop_41 : decode cX5_drop 41 = .ok (.iaload, 1) := by decide +kernel
theorem dX5_drop_42 : decode cX5_drop 42 = .ok (.iconst 1, 1) := by decide +kernel
theorem dX5_drop_43 : decode cX5_drop 43 = .ok (.isub, 1) := by decide +kernel
theorem dX5_drop_44 : decode cX5_drop 44 = .ok (.imul, 1) := by decide +kernel
theorem dX5_drop_45 : decode cX5_drop 45 = .ok (.iadd, 1) := by decide +kernel
theorem dX5_drop_46 : decode cX5_drop 46 = .ok (.if_icmp .ge 24, 3) := by decide +kernel
theorem dX5_drop_49 : decode cX5_drop 49 = .ok (.aload_n 0, 1) := by decide +kernel
theorem dX5_drop_50 : decode cX5_drop 50 = .ok (.getfield 7, 3) := by decide +kernel
theorem dX5_drop_53 : decode cX5_drop 53 = .ok (.iload_n 2, 1) := by decide +kernel
theorem dX5_drop_54 : decode cX5_drop 54 = .ok (.aload_n 0, 1) := by decide +kernel
theorem dX5_drop_55 : decode cX5_drop 55 = .ok (.getfield 7, 3) := by decide +kernel
theorem dX5_drop_58 : decode cX5_drop 58 = .ok (.iload_n 2, 1) := by decide +kernel
theorem dX5_drop_59 : decode cX5_drop 59 = .ok (.bipush 6, 2) := by decide +kernel
theorem dX5_drop_61 : decode cX5_drop 61 = .ok (.iadd, 1) := by decide +kernel
theorem dX5_drop_62 : decode cX5_drop 62 = .ok (.iaload, 1) := by decide +kernel
theorem dX5_drop_63 : decode cX5_drop 63 = .ok (.iastore, 1) := by decide +kernel
theorem dX5_drop_64 : decode cX5_drop 64 = .ok (.iinc 2 1, 3) := by decide +kernel
theorem dX5_drop_67 : decode cX5_drop 67 = .ok (.goto (-36), 3) := by decide +kernel
theorem dX5_drop_70 : decode cX5_drop 70 = .ok (.aload_n 0, 1) := by decide +kernel
theorem dX5_drop_71 : decode cX5_drop 71 = .ok (.getfield 7, 3) := by decide +kernel
theorem dX5_drop_74 : decode cX5_drop 74 = .ok (.iconst 1, 1) := by decide +kernel
theorem dX5_drop_75 : decode cX5_drop 75 = .ok (.dup2, 1) := by decide +kernel
theorem dX5_drop_76 : decode cX5_drop 76 = .ok (.iaload, 1) := by decide +kernel
theorem dX5_drop_77 : decode cX5_drop 77 = .ok (.iconst 1, 1) := by decide +kernel
theorem dX5_drop_78 : decode cX5_drop 78 = .ok (.isub, 1) := by decide +kernel
theorem dX5_drop_79 : decode cX5_drop 79 = .ok (.iastore, 1) := by decide +kernel
theorem dX5_drop_80 : decode cX5_drop 80 = .ok (.aload_n 0, 1) := by decide +kernel
theorem dX5_drop_81 : decode cX5_drop 81 = .ok (.iload_n 1, 1) := by decide +kernel
theorem dX5_drop_82 : decode cX5_drop 82 = .ok (.invokevirtual 281, 3) := by decide +kernel
theorem dX5_drop_85 : decode cX5_drop 85 = .ok (.aload_n 0, 1) := by decide +kernel
theorem dX5_drop_86 : decode cX5_drop 86 = .ok (.getfield 7, 3) := by decide +kernel
theorem dX5_drop_89 : decode cX5_drop 89 = .ok (.iconst 1, 1) := by decide +kernel
theorem dX5_drop_90 : decode cX5_drop 90 = .ok (.iaload, 1) := by decide +kernel
theorem dX5_drop_91 : decode cX5_drop 91 = .ok (.ireturn, 1) := by decide +kernel
theorem dX5_draw_0 : decode cX5_draw 0 = .ok (.iload_n 2, 1) := by decide +kernel
theorem dX5_draw_1 : decode cX5_draw 1 = .ok (.i2l, 1) := by decide +kernel
theorem dX5_draw_2 : decode cX5_draw 2 = .ok (.lconst 1, 1) := by decide +kernel
theorem dX5_draw_3 : decode cX5_draw 3 = .ok (.ldc2_w 284, 3) := by decide +kernel
theorem dX5_draw_6 : decode cX5_draw 6 = .ok (.invokestatic 55, 3) := by decide +kernel
theorem dX5_draw_9 : decode cX5_draw 9 = .ok (.ifCond .ne 5, 3) := by decide +kernel
theorem dX5_draw_12 : decode cX5_draw 12 = .ok (.iconst (-1), 1) := by decide +kernel
theorem dX5_draw_13 : decode cX5_draw 13 = .ok (.ireturn, 1) := by decide +kernel
theorem dX5_draw_14 : decode cX5_draw 14 = .ok (.aload_n 0, 1) := by decide +kernel
theorem dX5_draw_15 : decode cX5_draw 15 = .ok (.getfield 7, 3) := by decide +kernel
theorem dX5_draw_18 : decode cX5_draw 18 = .ok (.iconst 0, 1) := by decide +kernel
theorem dX5_draw_19 : decode cX5_draw 19 = .ok (.iaload, 1) := by decide +kernel
theorem dX5_draw_20 : decode cX5_draw 20 = .ok (.ifCond .ne 6, 3) := by decide +kernel
theorem dX5_draw_23 : decode cX5_draw 23 = .ok (.bipush (-2), 2) := by decide +kernel
theorem dX5_draw_25 : decode cX5_draw 25 = .ok (.ireturn, 1) := by decide +kernel
theorem dX5_draw_26 : decode cX5_draw 26 = .ok (.iload_n 1, 1) := by decide +kernel
theorem dX5_draw_27 : decode cX5_draw 27 = .ok (.istore_n 3, 1) := by decide +kernel
theorem dX5_draw_28 : decode cX5_draw 28 = .ok (.iconst 0, 1) := by decide +kernel
theorem dX5_draw_29 : decode cX5_draw 29 = .ok (.istore 4, 2) := by decide +kernel
theorem dX5_draw_31 : decode cX5_draw 31 = .ok (.iconst 0, 1) := by decide +kernel
theorem dX5_draw_32 : decode cX5_draw 32 = .ok (.istore 5, 2) := by decide +kernel
theorem dX5_draw_34 : decode cX5_draw 34 = .ok (.iload 5, 2) := by decide +kernel
theorem dX5_draw_36 : decode cX5_draw 36 = .ok (.iload_n 2, 1) := by decide +kernel
theorem dX5_draw_37 : decode cX5_draw 37 = .ok (.if_icmp .ge 80, 3) := by decide +kernel
theorem dX5_draw_40 : decode cX5_draw 40 = .ok (.iload_n 3, 1) := by decide +kernel
theorem dX5_draw_41 : decode cX5_draw 41 = .ok (.ldc_w 286, 3) := by decide +kernel
theorem dX5_draw_44 : decode cX5_draw 44 = .ok (.imul, 1) := by decide +kernel
theorem dX5_draw_45 : decode cX5_draw 45 = .ok (.sipush 12345, 3) := by decide +kernel
theorem dX5_draw_48 : decode cX5_draw 48 = .ok (.iadd, 1) := by decide +kernel
theorem dX5_draw_49 : decode cX5_draw 49 = .ok (.istore_n 3, 1) := by decide +kernel
theorem dX5_draw_50 : decode cX5_draw 50 = .ok (.iload_n 3, 1) := by decide +kernel
theorem dX5_draw_51 : decode cX5_draw 51 = .ok (.bipush 16, 2) := by decide +kernel
theorem dX5_draw_53 : decode cX5_draw 53 = .ok (.ishr, 1) := by decide +kernel
theorem dX5_draw_54 : decode cX5_draw 54 = .ok (.sipush 32767, 3) := by decide +kernel
theorem dX5_draw_57 : decode cX5_draw 57 = .ok (.iand, 1) := by decide +kernel
theorem dX5_draw_58 : decode cX5_draw 58 = .ok (.istore 6, 2) := by decide +kernel
theorem dX5_draw_60 : decode cX5_draw 60 = .ok (.iload 4, 2) := by decide +kernel
theorem dX5_draw_62 : decode cX5_draw 62 = .ok (.aload_n 0, 1) := by decide +kernel
theorem dX5_draw_63 : decode cX5_draw 63 = .ok (.iload 6, 2) := by decide +kernel
theorem dX5_draw_65 : decode cX5_draw 65 = .ok (.aload_n 0, 1) := by decide +kernel
theorem dX5_draw_66 : decode cX5_draw 66 = .ok (.getfield 7, 3) := by decide +kernel
theorem dX5_draw_69 : decode cX5_draw 69 = .ok (.iconst 0, 1) := by decide +kernel
theorem dX5_draw_70 : decode cX5_draw 70 = .ok (.iaload, 1) := by decide +kernel
theorem dX5_draw_71 : decode cX5_draw 71 = .ok (.irem, 1) := by decide +kernel
theorem dX5_draw_72 : decode cX5_draw 72 = .ok (.iload 6, 2) := by decide +kernel
theorem dX5_draw_74 : decode cX5_draw 74 = .ok (.bipush 8, 2) := by decide +kernel
theorem dX5_draw_76 : decode cX5_draw 76 = .ok (.idiv, 1) := by decide +kernel
theorem dX5_draw_77 : decode cX5_draw 77 = .ok (.aload_n 0, 1) := by decide +kernel
theorem dX5_draw_78 : decode cX5_draw 78 = .ok (.getfield 7, 3) := by decide +kernel
theorem dX5_draw_81 : decode cX5_draw 81 = .ok (.iconst 0, 1) := by decide +kernel
theorem dX5_draw_82 : decode cX5_draw 82 = .ok (.iaload, 1) := by decide +kernel
theorem dX5_draw_83 : decode cX5_draw 83 = .ok (.irem, 1) := by decide +kernel
theorem dX5_draw_84 : decode cX5_draw 84 = .ok (.iload 6, 2) := by decide +kernel
theorem dX5_draw_86 : decode cX5_draw 86 = .ok (.bipush 64, 2) := by decide +kernel
theorem dX5_draw_88 : decode cX5_draw 88 = .ok (.idiv, 1) := by decide +kernel
theorem dX5_draw_89 : decode cX5_draw 89 = .ok (.bipush 6, 2) := by decide +kernel
theorem dX5_draw_91 : decode cX5_draw 91 = .ok (.irem, 1) := by decide +kernel
theorem dX5_draw_92 : decode cX5_draw 92 = .ok (.iconst 1, 1) := by decide +kernel
theorem dX5_draw_93 : decode cX5_draw 93 = .ok (.iadd, 1) := by decide +kernel
theorem dX5_draw_94 : decode cX5_draw 94 = .ok (.invokevirtual 287, 3) := by decide +kernel
theorem dX5_draw_97 : decode cX5_draw 97 = .ok (.ifCond .le 7, 3) := by decide +kernel
theorem dX5_draw_100 : decode cX5_draw 100 = .ok (.iconst 1, 1) := by decide +kernel
theorem dX5_draw_101 : decode cX5_draw 101 = .ok (.goto 4, 3) := by decide +kernel
theorem dX5_draw_104 : decode cX5_draw 104 = .ok (.iconst 0, 1) := by decide +kernel
theorem dX5_draw_105 : decode cX5_draw 105 = .ok (.invokestatic 167, 3) := by decide +kernel
theorem dX5_draw_108 : decode cX5_draw 108 = .ok (.iadd, 1) := by decide +kernel
theorem dX5_draw_109 : decode cX5_draw 109 = .ok (.istore 4, 2) := by decide +kernel
theorem dX5_draw_111 : decode cX5_draw 111 = .ok (.iinc 5 1, 3) := by decide +kernel
theorem dX5_draw_114 : decode cX5_draw 114 = .ok (.goto (-80), 3) := by decide +kernel
theorem dX5_draw_117 : decode cX5_draw 117 = .ok (.iload 4, 2) := by decide +kernel
theorem dX5_draw_119 : decode cX5_draw 119 = .ok (.ireturn, 1) := by decide +kernel
theorem dX5_keep_0 : decode cX5_keep 0 = .ok (.iload_n 1, 1) := by decide +kernel
theorem dX5_keep_1 : decode cX5_keep 1 = .ok (.i2l, 1) := by decide +kernel
theorem dX5_keep_2 : decode cX5_keep 2 = .ok (.lconst 0, 1) := by decide +kernel
theorem dX5_keep_3 : decode cX5_keep 3 = .ok (.lconst 1, 1) := by decide +kernel
theorem dX5_keep_4 : decode cX5_keep 4 = .ok (.invokestatic 55, 3) := by decide +kernel
theorem dX5_keep_7 : decode cX5_keep 7 = .ok (.ifCond .ne 5, 3) := by decide +kernel
theorem dX5_keep_10 : decode cX5_keep 10 = .ok (.iconst (-1), 1) := by decide +kernel
theorem dX5_keep_11 : decode cX5_keep 11 = .ok (.ireturn, 1) := by decide +kernel
theorem dX5_keep_12 : decode cX5_keep 12 = .ok (.aload_n 0, 1) := by decide +kernel
theorem dX5_keep_13 : decode cX5_keep 13 = .ok (.getfield 22, 3) := by decide +kernel
theorem dX5_keep_16 : decode cX5_keep 16 = .ok (.iload_n 1, 1) := by decide +kernel
theorem dX5_keep_17 : decode cX5_keep 17 = .ok (.baload, 1) := by decide +kernel
theorem dX5_keep_18 : decode cX5_keep 18 = .ok (.invokestatic 167, 3) := by decide +kernel
theorem dX5_keep_21 : decode cX5_keep 21 = .ok (.istore_n 2, 1) := by decide +kernel
theorem dX5_keep_22 : decode cX5_keep 22 = .ok (.aload_n 0, 1) := by decide +kernel
theorem dX5_keep_23 : decode cX5_keep 23 = .ok (.getfield 22, 3) := by decide +kernel
theorem dX5_keep_26 : decode cX5_keep 26 = .ok (.iload_n 1, 1) := by decide +kernel
theorem dX5_keep_27 : decode cX5_keep 27 = .ok (.iconst 1, 1) := by decide +kernel
theorem dX5_keep_28 : decode cX5_keep 28 = .ok (.bastore, 1) := by decide +kernel
theorem dX5_keep_29 : decode cX5_keep 29 = .ok (.iconst 0, 1) := by decide +kernel
theorem dX5_keep_30 : decode cX5_keep 30 = .ok (.istore_n 3, 1) := by decide +kernel
theorem dX5_keep_31 : decode cX5_keep 31 = .ok (.iload_n 3, 1) := by decide +kernel
theorem dX5_keep_32 : decode cX5_keep 32 = .ok (.sipush 238, 3) := by decide +kernel
theorem dX5_keep_35 : decode cX5_keep 35 = .ok (.if_icmp .ge 27, 3) := by decide +kernel
theorem dX5_keep_38 : decode cX5_keep 38 = .ok (.aload_n 0, 1) := by decide +kernel
theorem dX5_keep_39 : decode cX5_keep 39 = .ok (.getfield 19, 3) := by decide +kernel
theorem dX5_keep_42 : decode cX5_keep 42 = .ok (.sipush 238, 3) := by decide +kernel
theorem dX5_keep_45 : decode cX5_keep 45 = .ok (.iload_n 1, 1) := by decide +kernel
theorem dX5_keep_46 : decode cX5_keep 46 = .ok (.imul, 1) := by decide +kernel
theorem dX5_keep_47 : decode cX5_keep 47 = .ok (.iload_n 3, 1) := by decide +kernel
theorem dX5_keep_48 : decode cX5_keep 48 = .ok (.iadd, 1) := by decide +kernel
theorem dX5_keep_49 : decode cX5_keep 49 = .ok (.aload_n 0, 1) := by decide +kernel
theorem dX5_keep_50 : decode cX5_keep 50 = .ok (.getfield 7, 3) := by decide +kernel
theorem dX5_keep_53 : decode cX5_keep 53 = .ok (.iload_n 3, 1) := by decide +kernel
theorem dX5_keep_54 : decode cX5_keep 54 = .ok (.iaload, 1) := by decide +kernel
theorem dX5_keep_55 : decode cX5_keep 55 = .ok (.iastore, 1) := by decide +kernel
theorem dX5_keep_56 : decode cX5_keep 56 = .ok (.iinc 3 1, 3) := by decide +kernel
theorem dX5_keep_59 : decode cX5_keep 59 = .ok (.goto (-28), 3) := by decide +kernel
theorem dX5_keep_62 : decode cX5_keep 62 = .ok (.iload_n 2, 1) := by decide +kernel
theorem dX5_keep_63 : decode cX5_keep 63 = .ok (.ireturn, 1) := by decide +kernel
theorem dX5_back_0 : decode cX5_back 0 = .ok (.iload_n 1, 1) := by decide +kernel
theorem dX5_back_1 : decode cX5_back 1 = .ok (.i2l, 1) := by decide +kernel
theorem dX5_back_2 : decode cX5_back 2 = .ok (.lconst 0, 1) := by decide +kernel
theorem dX5_back_3 : decode cX5_back 3 = .ok (.lconst 1, 1) := by decide +kernel
theorem dX5_back_4 : decode cX5_back 4 = .ok (.invokestatic 55, 3) := by decide +kernel
theorem dX5_back_7 : decode cX5_back 7 = .ok (.ifCond .ne 5, 3) := by decide +kernel
theorem dX5_back_10 : decode cX5_back 10 = .ok (.iconst (-1), 1) := by decide +kernel
theorem dX5_back_11 : decode cX5_back 11 = .ok (.ireturn, 1) := by decide +kernel
theorem dX5_back_12 : decode cX5_back 12 = .ok (.aload_n 0, 1) := by decide +kernel
theorem dX5_back_13 : decode cX5_back 13 = .ok (.getfield 22, 3) := by decide +kernel
theorem dX5_back_16 : decode cX5_back 16 = .ok (.iload_n 1, 1) := by decide +kernel
theorem dX5_back_17 : decode cX5_back 17 = .ok (.baload, 1) := by decide +kernel
theorem dX5_back_18 : decode cX5_back 18 = .ok (.ifCond .ne 6, 3) := by decide +kernel
theorem dX5_back_21 : decode cX5_back 21 = .ok (.bipush (-2), 2) := by decide +kernel
theorem dX5_back_23 : decode cX5_back 23 = .ok (.ireturn, 1) := by decide +kernel
theorem dX5_back_24 : decode cX5_back 24 = .ok (.iconst 0, 1) := by decide +kernel
theorem dX5_back_25 : decode cX5_back 25 = .ok (.istore_n 2, 1) := by decide +kernel
theorem dX5_back_26 : decode cX5_back 26 = .ok (.iload_n 2, 1) := by decide +kernel
theorem dX5_back_27 : decode cX5_back 27 = .ok (.sipush 238, 3) := by decide +kernel
theorem dX5_back_30 : decode cX5_back 30 = .ok (.if_icmp .ge 27, 3) := by decide +kernel
theorem dX5_back_33 : decode cX5_back 33 = .ok (.aload_n 0, 1) := by decide +kernel
theorem dX5_back_34 : decode cX5_back 34 = .ok (.getfield 7, 3) := by decide +kernel
theorem dX5_back_37 : decode cX5_back 37 = .ok (.iload_n 2, 1) := by decide +kernel
theorem dX5_back_38 : decode cX5_back 38 = .ok (.aload_n 0, 1) := by decide +kernel
theorem dX5_back_39 : decode cX5_back 39 = .ok (.getfield 19, 3) := by decide +kernel
theorem dX5_back_42 : decode cX5_back 42 = .ok (.sipush 238, 3) := by decide +kernel
theorem dX5_back_45 : decode cX5_back 45 = .ok (.iload_n 1, 1) := by decide +kernel
theorem dX5_back_46 : decode cX5_back 46 = .ok (.imul, 1) := by decide +kernel
theorem dX5_back_47 : decode cX5_back 47 = .ok (.iload_n 2, 1) := by decide +kernel
theorem dX5_back_48 : decode cX5_back 48 = .ok (.iadd, 1) := by decide +kernel
theorem dX5_back_49 : decode cX5_back 49 = .ok (.iaload, 1) := by decide +kernel
theorem dX5_back_50 : decode cX5_back 50 = .ok (.iastore, 1) := by decide +kernel
theorem dX5_back_51 : decode cX5_back 51 = .ok (.iinc 2 1, 3) := by decide +kernel
theorem dX5_back_54 : decode cX5_back 54 = .ok (.goto (-28), 3) := by decide +kernel
theorem dX5_back_57 : decode cX5_back 57 = .ok (.aload_n 0, 1) := by decide +kernel
theorem dX5_back_58 : decode cX5_back 58 = .ok (.getfield 7, 3) := by decide +kernel
theorem dX5_back_61 : decode cX5_back 61 = .ok (.iconst 1, 1) := by decide +kernel
theorem dX5_back_62 : decode cX5_back 62 = .ok (.iaload, 1) := by decide +kernel
theorem dX5_back_63 : decode cX5_back 63 = .ok (.ireturn, 1) := by decide +kernel
theorem dX5_isSheet_0 : decode cX5_isSheet 0 = .ok (.iload_n 0, 1) := by decide +kernel
theorem dX5_isSheet_1 : decode cX5_isSheet 1 = .ok (.i2l, 1) := by decide +kernel
theorem dX5_isSheet_2 : decode cX5_isSheet 2 = .ok (.lconst 0, 1) := by decide +kernel
theorem dX5_isSheet_3 : decode cX5_isSheet 3 = .ok (.ldc2_w 290, 3) := by decide +kernel
theorem dX5_isSheet_6 : decode cX5_isSheet 6 = .ok (.invokestatic 55, 3) := by decide +kernel
theorem dX5_isSheet_9 : decode cX5_isSheet 9 = .ok (.ifCond .eq 19, 3) := by decide +kernel
theorem dX5_isSheet_12 : decode cX5_isSheet 12 = .ok (.iload_n 1, 1) := by decide +kernel
theorem dX5_isSheet_13 : decode cX5_isSheet 13 = .ok (.i2l, 1) := by decide +kernel
theorem dX5_isSheet_14 : decode cX5_isSheet 14 = .ok (.lconst 0, 1) := by decide +kernel
theorem dX5_isSheet_15 : decode cX5_isSheet 15 = .ok (.ldc2_w 269, 3) := by decide +kernel
theorem dX5_isSheet_18 : decode cX5_isSheet 18 = .ok (.invokestatic 55, 3) := by decide +kernel
theorem dX5_isSheet_21 : decode cX5_isSheet 21 = .ok (.ifCond .eq 7, 3) := by decide +kernel
theorem dX5_isSheet_24 : decode cX5_isSheet 24 = .ok (.iconst 1, 1) := by decide +kernel
theorem dX5_isSheet_25 : decode cX5_isSheet 25 = .ok (.goto 4, 3) := by decide +kernel
theorem dX5_isSheet_28 : decode cX5_isSheet 28 = .ok (.iconst 0, 1) := by decide +kernel
theorem dX5_isSheet_29 : decode cX5_isSheet 29 = .ok (.ireturn, 1) := by decide +kernel
theorem dX5_sheet_0 : decode cX5_sheet 0 = .ok (.iload_n 1, 1) := by decide +kernel
theorem dX5_sheet_1 : decode cX5_sheet 1 = .ok (.iload_n 2, 1) := by decide +kernel
theorem dX5_sheet_2 : decode cX5_sheet 2 = .ok (.invokestatic 292, 3) := by decide +kernel
theorem dX5_sheet_5 : decode cX5_sheet 5 = .ok (.ifCond .eq 9, 3) := by decide +kernel
theorem dX5_sheet_8 : decode cX5_sheet 8 = .ok (.iload_n 3, 1) := by decide +kernel
theorem dX5_sheet_9 : decode cX5_sheet 9 = .ok (.bipush 40, 2) := by decide +kernel
theorem dX5_sheet_11 : decode cX5_sheet 11 = .ok (.if_icmp .le 5, 3) := by decide +kernel
theorem dX5_sheet_14 : decode cX5_sheet 14 = .ok (.iconst (-1), 1) := by decide +kernel
theorem dX5_sheet_15 : decode cX5_sheet 15 = .ok (.ireturn, 1) := by decide +kernel
theorem dX5_sheet_16 : decode cX5_sheet 16 = .ok (.iload_n 3, 1) := by decide +kernel
theorem dX5_sheet_17 : decode cX5_sheet 17 = .ok (.ifCond .ge 6, 3) := by decide +kernel
theorem dX5_sheet_20 : decode cX5_sheet 20 = .ok (.bipush (-14), 2) := by decide +kernel
theorem dX5_sheet_22 : decode cX5_sheet 22 = .ok (.ireturn, 1) := by decide +kernel
theorem dX5_sheet_23 : decode cX5_sheet 23 = .ok (.aload_n 0, 1) := by decide +kernel
theorem dX5_sheet_24 : decode cX5_sheet 24 = .ok (.getfield 44, 3) := by decide +kernel
theorem dX5_sheet_27 : decode cX5_sheet 27 = .ok (.iload_n 1, 1) := by decide +kernel
theorem dX5_sheet_28 : decode cX5_sheet 28 = .ok (.iload_n 2, 1) := by decide +kernel
theorem dX5_sheet_29 : decode cX5_sheet 29 = .ok (.iastore, 1) := by decide +kernel
theorem dX5_sheet_30 : decode cX5_sheet 30 = .ok (.aload_n 0, 1) := by decide +kernel
theorem dX5_sheet_31 : decode cX5_sheet 31 = .ok (.getfield 47, 3) := by decide +kernel
theorem dX5_sheet_34 : decode cX5_sheet 34 = .ok (.iload_n 1, 1) := by decide +kernel
theorem dX5_sheet_35 : decode cX5_sheet 35 = .ok (.iload_n 3, 1) := by decide +kernel
theorem dX5_sheet_36 : decode cX5_sheet 36 = .ok (.iastore, 1) := by decide +kernel
theorem dX5_sheet_37 : decode cX5_sheet 37 = .ok (.iconst 0, 1) := by decide +kernel
theorem dX5_sheet_38 : decode cX5_sheet 38 = .ok (.istore 4, 2) := by decide +kernel
theorem dX5_sheet_40 : decode cX5_sheet 40 = .ok (.iload 4, 2) := by decide +kernel
theorem dX5_sheet_42 : decode cX5_sheet 42 = .ok (.bipush 40, 2) := by decide +kernel
theorem dX5_sheet_44 : decode cX5_sheet 44 = .ok (.if_icmp .ge 22, 3) := by decide +kernel
theorem dX5_sheet_47 : decode cX5_sheet 47 = .ok (.aload_n 0, 1) := by decide +kernel
theorem dX5_sheet_48 : decode cX5_sheet 48 = .ok (.getfield 50, 3) := by decide +kernel
theorem dX5_sheet_51 : decode cX5_sheet 51 = .ok (.bipush 40, 2) := by decide +kernel
theorem dX5_sheet_53 : decode cX5_sheet 53 = .ok (.iload_n 1, 1) := by decide +kernel
theorem dX5_sheet_54 : decode cX5_sheet 54 = .ok (.imul, 1) := by decide +kernel
theorem dX5_sheet_55 : decode cX5_sheet 55 = .ok (.iload 4, 2) := by decide +kernel
theorem dX5_sheet_57 : decode cX5_sheet 57 = .ok (.iadd, 1) := by decide +kernel
theorem dX5_sheet_58 : decode cX5_sheet 58 = .ok (.iconst 0, 1) := by decide +kernel
theorem dX5_sheet_59 : decode cX5_sheet 59 = .ok (.iastore, 1) := by decide +kernel
theorem dX5_sheet_60 : decode cX5_sheet 60 = .ok (.iinc 4 1, 3) := by decide +kernel
theorem dX5_sheet_63 : decode cX5_sheet 63 = .ok (.goto (-23), 3) := by decide +kernel
theorem dX5_sheet_66 : decode cX5_sheet 66 = .ok (.iconst 1, 1) := by decide +kernel
theorem dX5_sheet_67 : decode cX5_sheet 67 = .ok (.ireturn, 1) := by decide +kernel
theorem dX5_lay_0 : decode cX5_lay 0 = .ok (.iload_n 1, 1) := by decide +kernel
theorem dX5_lay_1 : decode cX5_lay 1 = .ok (.iconst 0, 1) := by decide +kernel
theorem dX5_lay_2 : decode cX5_lay 2 = .ok (.invokestatic 292, 3) := by decide +kernel
theorem dX5_lay_5 : decode cX5_lay 5 = .ok (.ifCond .ne 5, 3) := by decide +kernel
theorem dX5_lay_8 : decode cX5_lay 8 = .ok (.iconst (-1), 1) := by decide +kernel
theorem dX5_lay_9 : decode cX5_lay 9 = .ok (.ireturn, 1) := by decide +kernel
theorem dX5_lay_10 : decode cX5_lay 10 = .ok (.aload_n 0, 1) := by decide +kernel
theorem dX5_lay_11 : decode cX5_lay 11 = .ok (.getfield 44, 3) := by decide +kernel
theorem dX5_lay_14 : decode cX5_lay 14 = .ok (.iload_n 1, 1) := by decide +kernel
theorem dX5_lay_15 : decode cX5_lay 15 = .ok (.iaload, 1) := by decide +kernel
theorem dX5_lay_16 : decode cX5_lay 16 = .ok (.bipush (-4), 2) := by decide +kernel
theorem dX5_lay_18 : decode cX5_lay 18 = .ok (.if_icmp .ne 6, 3) := by decide +kernel
theorem dX5_lay_21 : decode cX5_lay 21 = .ok (.bipush (-11), 2) := by decide +kernel
theorem dX5_lay_23 : decode cX5_lay 23 = .ok (.ireturn, 1) := by decide +kernel
theorem dX5_lay_24 : decode cX5_lay 24 = .ok (.iload_n 2, 1) := by decide +kernel
theorem dX5_lay_25 : decode cX5_lay 25 = .ok (.i2l, 1) := by decide +kernel
theorem dX5_lay_26 : decode cX5_lay 26 = .ok (.lconst 0, 1) := by decide +kernel
theorem dX5_lay_27 : decode cX5_lay 27 = .ok (.aload_n 0, 1) := by decide +kernel
theorem dX5_lay_28 : decode cX5_lay 28 = .ok (.getfield 47, 3) := by decide +kernel
theorem dX5_lay_31 : decode cX5_lay 31 = .ok (.iload_n 1, 1) := by decide +kernel
theorem dX5_lay_32 : decode cX5_lay 32 = .ok (.iaload, 1) := by decide +kernel
theorem dX5_lay_33 : decode cX5_lay 33 = .ok (.iconst 1, 1) := by decide +kernel
theorem dX5_lay_34 : decode cX5_lay 34 = .ok (.isub, 1) := by decide +kernel
theorem dX5_lay_35 : decode cX5_lay 35 = .ok (.i2l, 1) := by decide +kernel
theorem dX5_lay_36 : decode cX5_lay 36 = .ok (.invokestatic 55, 3) := by decide +kernel
theorem dX5_lay_39 : decode cX5_lay 39 = .ok (.ifCond .ne 6, 3) := by decide +kernel
theorem dX5_lay_42 : decode cX5_lay 42 = .ok (.bipush (-12), 2) := by decide +kernel
theorem dX5_lay_44 : decode cX5_lay 44 = .ok (.ireturn, 1) := by decide +kernel
theorem dX5_lay_45 : decode cX5_lay 45 = .ok (.aload_n 0, 1) := by decide +kernel
theorem dX5_lay_46 : decode cX5_lay 46 = .ok (.getfield 50, 3) := by decide +kernel
theorem dX5_lay_49 : decode cX5_lay 49 = .ok (.bipush 40, 2) := by decide +kernel
theorem dX5_lay_51 : decode cX5_lay 51 = .ok (.iload_n 1, 1) := by decide +kernel
theorem dX5_lay_52 : decode cX5_lay 52 = .ok (.imul, 1) := by decide +kernel
theorem dX5_lay_53 : decode cX5_lay 53 = .ok (.iload_n 2, 1) := by decide +kernel
theorem dX5_lay_54 : decode cX5_lay 54 = .ok (.iadd, 1) := by decide +kernel
theorem dX5_lay_55 : decode cX5_lay 55 = .ok (.aload_n 0, 1) := by decide +kernel
theorem dX5_lay_56 : decode cX5_lay 56 = .ok (.getfield 44, 3) := by decide +kernel
theorem dX5_lay_59 : decode cX5_lay 59 = .ok (.iload_n 1, 1) := by decide +kernel
theorem dX5_lay_60 : decode cX5_lay 60 = .ok (.iaload, 1) := by decide +kernel
theorem dX5_lay_61 : decode cX5_lay 61 = .ok (.ifCond .ne 8, 3) := by decide +kernel
theorem dX5_lay_64 : decode cX5_lay 64 = .ok (.iload_n 3, 1) := by decide +kernel
theorem dX5_lay_65 : decode cX5_lay 65 = .ok (.i2b, 1) := by decide +kernel
theorem dX5_lay_66 : decode cX5_lay 66 = .ok (.goto 19, 3) := by decide +kernel
theorem dX5_lay_69 : decode cX5_lay 69 = .ok (.aload_n 0, 1) := by decide +kernel
theorem dX5_lay_70 : decode cX5_lay 70 = .ok (.getfield 44, 3) := by decide +kernel
theorem dX5_lay_73 : decode cX5_lay 73 = .ok (.iload_n 1, 1) := by decide +kernel
theorem dX5_lay_74 : decode cX5_lay 74 = .ok (.iaload, 1) := by decide +kernel
theorem dX5_lay_75 : decode cX5_lay 75 = .ok (.iconst 1, 1) := by decide +kernel
theorem dX5_lay_76 : decode cX5_lay 76 = .ok (.if_icmp .ne 8, 3) := by decide +kernel
theorem dX5_lay_79 : decode cX5_lay 79 = .ok (.iload_n 3, 1) := by decide +kernel
theorem dX5_lay_80 : decode cX5_lay 80 = .ok (.i2s, 1) := by decide +kernel
theorem dX5_lay_81 : decode cX5_lay 81 = .ok (.goto 4, 3) := by decide +kernel
theorem dX5_lay_84 : decode cX5_lay 84 = .ok (.iload_n 3, 1) := by decide +kernel
theorem dX5_lay_85 : decode cX5_lay 85 = .ok (.iastore, 1) := by decide +kernel
theorem dX5_lay_86 : decode cX5_lay 86 = .ok (.iconst 1, 1) := by decide +kernel
theorem dX5_lay_87 : decode cX5_lay 87 = .ok (.ireturn, 1) := by decide +kernel
theorem dX5_read_0 : decode cX5_read 0 = .ok (.iload_n 1, 1) := by decide +kernel
theorem dX5_read_1 : decode cX5_read 1 = .ok (.iload_n 2, 1) := by decide +kernel
theorem dX5_read_2 : decode cX5_read 2 = .ok (.invokestatic 292, 3) := by decide +kernel
theorem dX5_read_5 : decode cX5_read 5 = .ok (.ifCond .eq 16, 3) := by decide +kernel
theorem dX5_read_8 : decode cX5_read 8 = .ok (.iload 4, 2) := by decide +kernel
theorem dX5_read_10 : decode cX5_read 10 = .ok (.i2l, 1) := by decide +kernel
theorem dX5_read_11 : decode cX5_read 11 = .ok (.lconst 0, 1) := by decide +kernel
theorem dX5_read_12 : decode cX5_read 12 = .ok (.ldc2_w 296, 3) := by decide +kernel
theorem dX5_read_15 : decode cX5_read 15 = .ok (.invokestatic 55, 3) := by decide +kernel
theorem dX5_read_18 : decode cX5_read 18 = .ok (.ifCond .ne 5, 3) := by decide +kernel
theorem dX5_read_21 : decode cX5_read 21 = .ok (.iconst (-1), 1) := by decide +kernel
theorem dX5_read_22 : decode cX5_read 22 = .ok (.ireturn, 1) := by decide +kernel
theorem dX5_read_23 : decode cX5_read 23 = .ok (.aload_n 0, 1) := by decide +kernel
theorem dX5_read_24 : decode cX5_read 24 = .ok (.invokevirtual 142, 3) := by decide +kernel
theorem dX5_read_27 : decode cX5_read 27 = .ok (.iconst 0, 1) := by decide +kernel
theorem dX5_read_28 : decode cX5_read 28 = .ok (.istore 5, 2) := by decide +kernel
theorem dX5_read_30 : decode cX5_read 30 = .ok (.iconst 0, 1) := by decide +kernel
theorem dX5_read_31 : decode cX5_read 31 = .ok (.istore 6, 2) := by decide +kernel
theorem dX5_read_33 : decode cX5_read 33 = .ok (.iconst 0, 1) := by decide +kernel
theorem dX5_read_34 : decode cX5_read 34 = .ok (.istore 7, 2) := by decide +kernel
theorem dX5_read_36 : decode cX5_read 36 = .ok (.iload 7, 2) := by decide +kernel
theorem dX5_read_38 : decode cX5_read 38 = .ok (.iload 4, 2) := by decide +kernel
theorem dX5_read_40 : decode cX5_read 40 = .ok (.if_icmp .ge 167, 3) := by decide +kernel
theorem dX5_read_43 : decode cX5_read 43 = .ok (.iload 5, 2) := by decide +kernel
theorem dX5_read_45 : decode cX5_read 45 = .ok (.ifCond .ne 162, 3) := by decide +kernel
theorem dX5_read_48 : decode cX5_read 48 = .ok (.iconst 0, 1) := by decide +kernel
theorem dX5_read_49 : decode cX5_read 49 = .ok (.istore 8, 2) := by decide +kernel
theorem dX5_read_51 : decode cX5_read 51 = .ok (.iload 8, 2) := by decide +kernel
theorem dX5_read_53 : decode cX5_read 53 = .ok (.iconst 3, 1) := by decide +kernel
theorem dX5_read_54 : decode cX5_read 54 = .ok (.if_icmp .ge 84, 3) := by decide +kernel
theorem dX5_read_57 : decode cX5_read 57 = .ok (.iload 5, 2) := by decide +kernel
theorem dX5_read_59 : decode cX5_read 59 = .ok (.ifCond .ne 79, 3) := by decide +kernel
theorem dX5_read_62 : decode cX5_read 62 = .ok (.iload_n 3, 1) := by decide +kernel
theorem dX5_read_63 : decode cX5_read 63 = .ok (.i2l, 1) := by decide +kernel
theorem dX5_read_64 : decode cX5_read 64 = .ok (.iconst 3, 1) := by decide +kernel
theorem dX5_read_65 : decode cX5_read 65 = .ok (.iload 7, 2) := by decide +kernel
theorem dX5_read_67 : decode cX5_read 67 = .ok (.imul, 1) := by decide +kernel
theorem dX5_read_68 : decode cX5_read 68 = .ok (.i2l, 1) := by decide +kernel
theorem dX5_read_69 : decode cX5_read 69 = .ok (.ladd, 1) := by decide +kernel
theorem dX5_read_70 : decode cX5_read 70 = .ok (.iload 8, 2) := by decide +kernel
theorem dX5_read_72 : decode cX5_read 72 = .ok (.i2l, 1) := by decide +kernel
theorem dX5_read_73 : decode cX5_read 73 = .ok (.ladd, 1) := by decide +kernel
theorem dX5_read_74 : decode cX5_read 74 = .ok (.lstore 9, 2) := by decide +kernel
theorem dX5_read_76 : decode cX5_read 76 = .ok (.aload_n 0, 1) := by decide +kernel
theorem dX5_read_77 : decode cX5_read 77 = .ok (.getfield 44, 3) := by decide +kernel
theorem dX5_read_80 : decode cX5_read 80 = .ok (.iload_n 1, 1) := by decide +kernel
theorem dX5_read_81 : decode cX5_read 81 = .ok (.iaload, 1) := by decide +kernel
theorem dX5_read_82 : decode cX5_read 82 = .ok (.bipush (-4), 2) := by decide +kernel
theorem dX5_read_84 : decode cX5_read 84 = .ok (.if_icmp .ne 7, 3) := by decide +kernel
theorem dX5_read_87 : decode cX5_read 87 = .ok (.iconst 1, 1) := by decide +kernel
theorem dX5_read_88 : decode cX5_read 88 = .ok (.goto 42, 3) := by decide +kernel
theorem dX5_read_91 : decode cX5_read 91 = .ok (.aload_n 0, 1) := by decide +kernel
theorem dX5_read_92 : decode cX5_read 92 = .ok (.getfield 44, 3) := by decide +kernel
theorem dX5_read_95 : decode cX5_read 95 = .ok (.iload_n 1, 1) := by decide +kernel
theorem dX5_read_96 : decode cX5_read 96 = .ok (.iaload, 1) := by decide +kernel
theorem dX5_read_97 : decode cX5_read 97 = .ok (.iload_n 2, 1) := by decide +kernel
theorem dX5_read_98 : decode cX5_read 98 = .ok (.if_icmp .eq 7, 3) := by decide +kernel
theorem dX5_read_101 : decode cX5_read 101 = .ok (.iconst 3, 1) := by decide +kernel
theorem dX5_read_102 : decode cX5_read 102 = .ok (.goto 28, 3) := by decide +kernel
theorem dX5_read_105 : decode cX5_read 105 = .ok (.lload 9, 2) := by decide +kernel
theorem dX5_read_107 : decode cX5_read 107 = .ok (.lconst 0, 1) := by decide +kernel
theorem dX5_read_108 : decode cX5_read 108 = .ok (.lcmp, 1) := by decide +kernel
theorem dX5_read_109 : decode cX5_read 109 = .ok (.ifCond .lt 16, 3) := by decide +kernel
theorem dX5_read_112 : decode cX5_read 112 = .ok (.lload 9, 2) := by decide +kernel
theorem dX5_read_114 : decode cX5_read 114 = .ok (.aload_n 0, 1) := by decide +kernel
theorem dX5_read_115 : decode cX5_read 115 = .ok (.getfield 47, 3) := by decide +kernel
theorem dX5_read_118 : decode cX5_read 118 = .ok (.iload_n 1, 1) := by decide +kernel
theorem dX5_read_119 : decode cX5_read 119 = .ok (.iaload, 1) := by decide +kernel
theorem dX5_read_120 : decode cX5_read 120 = .ok (.i2l, 1) := by decide +kernel
theorem dX5_read_121 : decode cX5_read 121 = .ok (.lcmp, 1) := by decide +kernel
theorem dX5_read_122 : decode cX5_read 122 = .ok (.ifCond .lt 7, 3) := by decide +kernel
theorem dX5_read_125 : decode cX5_read 125 = .ok (.iconst 2, 1) := by decide +kernel
theorem dX5_read_126 : decode cX5_read 126 = .ok (.goto 4, 3) := by decide +kernel
theorem dX5_read_129 : decode cX5_read 129 = .ok (.iconst 0, 1) := by decide +kernel
theorem dX5_read_130 : decode cX5_read 130 = .ok (.istore 5, 2) := by decide +kernel
theorem dX5_read_132 : decode cX5_read 132 = .ok (.iinc 8 1, 3) := by decide +kernel
theorem dX5_read_135 : decode cX5_read 135 = .ok (.goto (-84), 3) := by decide +kernel
theorem dX5_read_138 : decode cX5_read 138 = .ok (.iload 5, 2) := by decide +kernel
theorem dX5_read_140 : decode cX5_read 140 = .ok (.ifCond .ne 61, 3) := by decide +kernel
theorem dX5_read_143 : decode cX5_read 143 = .ok (.bipush 40, 2) := by decide +kernel
theorem dX5_read_145 : decode cX5_read 145 = .ok (.iload_n 1, 1) := by decide +kernel
theorem dX5_read_146 : decode cX5_read 146 = .ok (.imul, 1) := by decide +kernel
theorem dX5_read_147 : decode cX5_read 147 = .ok (.iload_n 3, 1) := by decide +kernel
theorem dX5_read_148 : decode cX5_read 148 = .ok (.iadd, 1) := by decide +kernel
theorem dX5_read_149 : decode cX5_read 149 = .ok (.iconst 3, 1) := by decide +kernel
theorem dX5_read_150 : decode cX5_read 150 = .ok (.iload 7, 2) := by decide +kernel
theorem dX5_read_152 : decode cX5_read 152 = .ok (.imul, 1) := by decide +kernel
theorem dX5_read_153 : decode cX5_read 153 = .ok (.iadd, 1) := by decide +kernel
theorem dX5_read_154 : decode cX5_read 154 = .ok (.istore 8, 2) := by decide +kernel
theorem dX5_read_156 : decode cX5_read 156 = .ok (.aload_n 0, 1) := by decide +kernel
theorem dX5_read_157 : decode cX5_read 157 = .ok (.aload_n 0, 1) := by decide +kernel
theorem dX5_read_158 : decode cX5_read 158 = .ok (.getfield 50, 3) := by decide +kernel
theorem dX5_read_161 : decode cX5_read 161 = .ok (.iload 8, 2) := by decide +kernel
theorem dX5_read_163 : decode cX5_read 163 = .ok (.iaload, 1) := by decide +kernel
theorem dX5_read_164 : decode cX5_read 164 = .ok (.aload_n 0, 1) := by decide +kernel
theorem dX5_read_165 : decode cX5_read 165 = .ok (.getfield 50, 3) := by decide +kernel
theorem dX5_read_168 : decode cX5_read 168 = .ok (.iload 8, 2) := by decide +kernel
theorem dX5_read_170 : decode cX5_read 170 = .ok (.iconst 1, 1) := by decide +kernel
theorem dX5_read_171 : decode cX5_read 171 = .ok (.iadd, 1) := by decide +kernel
theorem dX5_read_172 : decode cX5_read 172 = .ok (.iaload, 1) := by decide +kernel
theorem dX5_read_173 : decode cX5_read 173 = .ok (.aload_n 0, 1) := by decide +kernel
theorem dX5_read_174 : decode cX5_read 174 = .ok (.getfield 50, 3) := by decide +kernel
theorem dX5_read_177 : decode cX5_read 177 = .ok (.iload 8, 2) := by decide +kernel
theorem dX5_read_179 : decode cX5_read 179 = .ok (.iconst 2, 1) := by decide +kernel
theorem dX5_read_180 : decode cX5_read 180 = .ok (.iadd, 1) := by decide +kernel
theorem dX5_read_181 : decode cX5_read 181 = .ok (.iaload, 1) := by decide +kernel
theorem dX5_read_182 : decode cX5_read 182 = .ok (.invokevirtual 287, 3) := by decide +kernel
theorem dX5_read_185 : decode cX5_read 185 = .ok (.ifCond .ge 13, 3) := by decide +kernel
theorem dX5_read_188 : decode cX5_read 188 = .ok (.aload_n 0, 1) := by decide +kernel
theorem dX5_read_189 : decode cX5_read 189 = .ok (.invokevirtual 155, 3) := by decide +kernel
theorem dX5_read_192 : decode cX5_read 192 = .ok (.bipush (-20), 2) := by decide +kernel
theorem dX5_read_194 : decode cX5_read 194 = .ok (.iload 7, 2) := by decide +kernel
theorem dX5_read_196 : decode cX5_read 196 = .ok (.isub, 1) := by decide +kernel
theorem dX5_read_197 : decode cX5_read 197 = .ok (.ireturn, 1) := by decide +kernel
theorem dX5_read_198 : decode cX5_read 198 = .ok (.iinc 6 1, 3) := by decide +kernel
theorem dX5_read_201 : decode cX5_read 201 = .ok (.iinc 7 1, 3) := by decide +kernel
theorem dX5_read_204 : decode cX5_read 204 = .ok (.goto (-168), 3) := by decide +kernel
theorem dX5_read_207 : decode cX5_read 207 = .ok (.aload_n 0, 1) := by decide +kernel
theorem dX5_read_208 : decode cX5_read 208 = .ok (.iload 5, 2) := by decide +kernel
theorem dX5_read_210 : decode cX5_read 210 = .ok (.putfield 298, 3) := by decide +kernel
theorem dX5_read_213 : decode cX5_read 213 = .ok (.iload 6, 2) := by decide +kernel
theorem dX5_read_215 : decode cX5_read 215 = .ok (.ireturn, 1) := by decide +kernel
theorem dX5_torn_0 : decode cX5_torn 0 = .ok (.aload_n 0, 1) := by decide +kernel
theorem dX5_torn_1 : decode cX5_torn 1 = .ok (.getfield 298, 3) := by decide +kernel
theorem dX5_torn_4 : decode cX5_torn 4 = .ok (.ireturn, 1) := by decide +kernel
theorem dX5_summed_0 : decode cX5_summed 0 = .ok (.iconst 0, 1) := by decide +kernel
theorem dX5_summed_1 : decode cX5_summed 1 = .ok (.istore 4, 2) := by decide +kernel
theorem dX5_summed_3 : decode cX5_summed 3 = .ok (.iconst 0, 1) := by decide +kernel
theorem dX5_summed_4 : decode cX5_summed 4 = .ok (.istore 5, 2) := by decide +kernel
theorem dX5_summed_6 : decode cX5_summed 6 = .ok (.iload 5, 2) := by decide +kernel
theorem dX5_summed_8 : decode cX5_summed 8 = .ok (.iload_n 3, 1) := by decide +kernel
theorem dX5_summed_9 : decode cX5_summed 9 = .ok (.if_icmp .ge 25, 3) := by decide +kernel
theorem dX5_summed_12 : decode cX5_summed 12 = .ok (.iload 4, 2) := by decide +kernel
theorem dX5_summed_14 : decode cX5_summed 14 = .ok (.aload_n 0, 1) := by decide +kernel
theorem dX5_summed_15 : decode cX5_summed 15 = .ok (.getfield 7, 3) := by decide +kernel
theorem dX5_summed_18 : decode cX5_summed 18 = .ok (.iload_n 1, 1) := by decide +kernel
theorem dX5_summed_19 : decode cX5_summed 19 = .ok (.iload_n 2, 1) := by decide +kernel
theorem dX5_summed_20 : decode cX5_summed 20 = .ok (.iload 5, 2) := by decide +kernel
theorem dX5_summed_22 : decode cX5_summed 22 = .ok (.imul, 1) := by decide +kernel
theorem dX5_summed_23 : decode cX5_summed 23 = .ok (.iadd, 1) := by decide +kernel
theorem dX5_summed_24 : decode cX5_summed 24 = .ok (.iaload, 1) := by decide +kernel
theorem dX5_summed_25 : decode cX5_summed 25 = .ok (.iadd, 1) := by decide +kernel
theorem dX5_summed_26 : decode cX5_summed 26 = .ok (.istore 4, 2) := by decide +kernel
theorem dX5_summed_28 : decode cX5_summed 28 = .ok (.iinc 5 1, 3) := by decide +kernel
theorem dX5_summed_31 : decode cX5_summed 31 = .ok (.goto (-25), 3) := by decide +kernel
theorem dX5_summed_34 : decode cX5_summed 34 = .ok (.iload 4, 2) := by decide +kernel
theorem dX5_summed_36 : decode cX5_summed 36 = .ok (.ireturn, 1) := by decide +kernel
theorem dX5_count_0 : decode cX5_count 0 = .ok (.iload_n 1, 1) := by decide +kernel
theorem dX5_count_1 : decode cX5_count 1 = .ok (.tableswitch 131 0 5 #[39, 59, 72, 77, 100, 115], 39) := by decide +kernel
theorem dX5_count_40 : decode cX5_count 40 = .ok (.aload_n 0, 1) := by decide +kernel
theorem dX5_count_41 : decode cX5_count 41 = .ok (.getfield 22, 3) := by decide +kernel
theorem dX5_count_44 : decode cX5_count 44 = .ok (.iconst 0, 1) := by decide +kernel
theorem dX5_count_45 : decode cX5_count 45 = .ok (.baload, 1) := by decide +kernel
theorem dX5_count_46 : decode cX5_count 46 = .ok (.invokestatic 167, 3) := by decide +kernel
theorem dX5_count_49 : decode cX5_count 49 = .ok (.aload_n 0, 1) := by decide +kernel
theorem dX5_count_50 : decode cX5_count 50 = .ok (.getfield 22, 3) := by decide +kernel
theorem dX5_count_53 : decode cX5_count 53 = .ok (.iconst 1, 1) := by decide +kernel
theorem dX5_count_54 : decode cX5_count 54 = .ok (.baload, 1) := by decide +kernel
theorem dX5_count_55 : decode cX5_count 55 = .ok (.invokestatic 167, 3) := by decide +kernel
theorem dX5_count_58 : decode cX5_count 58 = .ok (.iadd, 1) := by decide +kernel
theorem dX5_count_59 : decode cX5_count 59 = .ok (.ireturn, 1) := by decide +kernel
theorem dX5_count_60 : decode cX5_count 60 = .ok (.aload_n 0, 1) := by decide +kernel
theorem dX5_count_61 : decode cX5_count 61 = .ok (.iconst 4, 1) := by decide +kernel
theorem dX5_count_62 : decode cX5_count 62 = .ok (.iconst 5, 1) := by decide +kernel
theorem dX5_count_63 : decode cX5_count 63 = .ok (.aload_n 0, 1) := by decide +kernel
theorem dX5_count_64 : decode cX5_count 64 = .ok (.getfield 7, 3) := by decide +kernel
theorem dX5_count_67 : decode cX5_count 67 = .ok (.iconst 0, 1) := by decide +kernel
theorem dX5_count_68 : decode cX5_count 68 = .ok (.iaload, 1) := by decide +kernel
theorem dX5_count_69 : decode cX5_count 69 = .ok (.invokevirtual 301, 3) := by decide +kernel
theorem dX5_count_72 : decode cX5_count 72 = .ok (.ireturn, 1) := by decide +kernel
theorem dX5_count_73 : decode cX5_count 73 = .ok (.aload_n 0, 1) := by decide +kernel
theorem dX5_count_74 : decode cX5_count 74 = .ok (.getfield 59, 3) := by decide +kernel
theorem dX5_count_77 : decode cX5_count 77 = .ok (.ireturn, 1) := by decide +kernel
theorem dX5_count_78 : decode cX5_count 78 = .ok (.aload_n 0, 1) := by decide +kernel
theorem dX5_count_79 : decode cX5_count 79 = .ok (.getfield 44, 3) := by decide +kernel
theorem dX5_count_82 : decode cX5_count 82 = .ok (.iconst 0, 1) := by decide +kernel
theorem dX5_count_83 : decode cX5_count 83 = .ok (.iaload, 1) := by decide +kernel
theorem dX5_count_84 : decode cX5_count 84 = .ok (.bipush (-4), 2) := by decide +kernel
theorem dX5_count_86 : decode cX5_count 86 = .ok (.if_icmp .ne 8, 3) := by decide +kernel
theorem dX5_count_89 : decode cX5_count 89 = .ok (.bipush (-4), 2) := by decide +kernel
theorem dX5_count_91 : decode cX5_count 91 = .ok (.goto 9, 3) := by decide +kernel
theorem dX5_count_94 : decode cX5_count 94 = .ok (.aload_n 0, 1) := by decide +kernel
theorem dX5_count_95 : decode cX5_count 95 = .ok (.getfield 47, 3) := by decide +kernel
theorem dX5_count_98 : decode cX5_count 98 = .ok (.iconst 0, 1) := by decide +kernel
theorem dX5_count_99 : decode cX5_count 99 = .ok (.iaload, 1) := by decide +kernel
theorem dX5_count_100 : decode cX5_count 100 = .ok (.ireturn, 1) := by decide +kernel
theorem dX5_count_101 : decode cX5_count 101 = .ok (.aload_n 0, 1) := by decide +kernel
theorem dX5_count_102 : decode cX5_count 102 = .ok (.bipush 36, 2) := by decide +kernel
theorem dX5_count_104 : decode cX5_count 104 = .ok (.bipush 6, 2) := by decide +kernel
theorem dX5_count_106 : decode cX5_count 106 = .ok (.aload_n 0, 1) := by decide +kernel
theorem dX5_count_107 : decode cX5_count 107 = .ok (.getfield 7, 3) := by decide +kernel
theorem dX5_count_110 : decode cX5_count 110 = .ok (.iconst 1, 1) := by decide +kernel
theorem dX5_count_111 : decode cX5_count 111 = .ok (.iaload, 1) := by decide +kernel
theorem dX5_count_112 : decode cX5_count 112 = .ok (.invokevirtual 301, 3) := by decide +kernel
theorem dX5_count_115 : decode cX5_count 115 = .ok (.ireturn, 1) := by decide +kernel
theorem dX5_count_116 : decode cX5_count 116 = .ok (.aload_n 0, 1) := by decide +kernel
theorem dX5_count_117 : decode cX5_count 117 = .ok (.bipush 8, 2) := by decide +kernel
theorem dX5_count_119 : decode cX5_count 119 = .ok (.iconst 5, 1) := by decide +kernel
theorem dX5_count_120 : decode cX5_count 120 = .ok (.aload_n 0, 1) := by decide +kernel
theorem dX5_count_121 : decode cX5_count 121 = .ok (.getfield 7, 3) := by decide +kernel
theorem dX5_count_124 : decode cX5_count 124 = .ok (.iconst 0, 1) := by decide +kernel
theorem dX5_count_125 : decode cX5_count 125 = .ok (.iaload, 1) := by decide +kernel
theorem dX5_count_126 : decode cX5_count 126 = .ok (.iconst 1, 1) := by decide +kernel
theorem dX5_count_127 : decode cX5_count 127 = .ok (.isub, 1) := by decide +kernel
theorem dX5_count_128 : decode cX5_count 128 = .ok (.invokevirtual 301, 3) := by decide +kernel
theorem dX5_count_131 : decode cX5_count 131 = .ok (.ireturn, 1) := by decide +kernel
theorem dX5_count_132 : decode cX5_count 132 = .ok (.iconst (-1), 1) := by decide +kernel
theorem dX5_count_133 : decode cX5_count 133 = .ok (.ireturn, 1) := by decide +kernel
