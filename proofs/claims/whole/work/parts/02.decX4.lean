theorem dX4_init_0 : decode cX4_init 0 = .ok (.aload_n 0, 1) := by decide +kernel
theorem dX4_init_1 : decode cX4_init 1 = .ok (.invokespecial 1, 3) := by decide +kernel
theorem dX4_init_4 : decode cX4_init 4 = .ok (.aload_n 0, 1) := by decide +kernel
theorem dX4_init_5 : decode cX4_init 5 = .ok (.new 7, 3) := by decide +kernel
theorem dX4_init_8 : decode cX4_init 8 = .ok (.dup, 1) := by decide +kernel
theorem dX4_init_9 : decode cX4_init 9 = .ok (.invokespecial 9, 3) := by decide +kernel
theorem dX4_init_12 : decode cX4_init 12 = .ok (.putfield 10, 3) := by decide +kernel
theorem dX4_init_15 : decode cX4_init 15 = .ok (.aload_n 0, 1) := by decide +kernel
theorem dX4_init_16 : decode cX4_init 16 = .ok (.new 7, 3) := by decide +kernel
theorem dX4_init_19 : decode cX4_init 19 = .ok (.dup, 1) := by decide +kernel
theorem dX4_init_20 : decode cX4_init 20 = .ok (.invokespecial 9, 3) := by decide +kernel
theorem dX4_init_23 : decode cX4_init 23 = .ok (.putfield 16, 3) := by decide +kernel
theorem dX4_init_26 : decode cX4_init 26 = .ok (.aload_n 0, 1) := by decide +kernel
theorem dX4_init_27 : decode cX4_init 27 = .ok (.iconst 2, 1) := by decide +kernel
theorem dX4_init_28 : decode cX4_init 28 = .ok (.anewarray 7, 3) := by decide +kernel
theorem dX4_init_31 : decode cX4_init 31 = .ok (.putfield 19, 3) := by decide +kernel
theorem dX4_init_34 : decode cX4_init 34 = .ok (.aload_n 0, 1) := by decide +kernel
theorem dX4_init_35 : decode cX4_init 35 = .ok (.iconst 2, 1) := by decide +kernel
theorem dX4_init_36 : decode cX4_init 36 = .ok (.newarray .boolean, 2) := by decide +kernel
theorem dX4_init_38 : decode cX4_init 38 = .ok (.putfield 23, 3) := by decide +kernel
theorem dX4_init_41 : decode cX4_init 41 = .ok (.aload_n 0, 1) := by decide +kernel
theorem dX4_init_42 : decode cX4_init 42 = .ok (.iconst 4, 1) := by decide +kernel
theorem dX4_init_43 : decode cX4_init 43 = .ok (.anewarray 27, 3) := by decide +kernel
theorem dX4_init_46 : decode cX4_init 46 = .ok (.putfield 29, 3) := by decide +kernel
theorem dX4_init_49 : decode cX4_init 49 = .ok (.aload_n 0, 1) := by decide +kernel
theorem dX4_init_50 : decode cX4_init 50 = .ok (.new 33, 3) := by decide +kernel
theorem dX4_init_53 : decode cX4_init 53 = .ok (.dup, 1) := by decide +kernel
theorem dX4_init_54 : decode cX4_init 54 = .ok (.invokespecial 35, 3) := by decide +kernel
theorem dX4_init_57 : decode cX4_init 57 = .ok (.putfield 36, 3) := by decide +kernel
theorem dX4_init_60 : decode cX4_init 60 = .ok (.aload_n 0, 1) := by decide +kernel
theorem dX4_init_61 : decode cX4_init 61 = .ok (.new 40, 3) := by decide +kernel
theorem dX4_init_64 : decode cX4_init 64 = .ok (.dup, 1) := by decide +kernel
theorem dX4_init_65 : decode cX4_init 65 = .ok (.invokespecial 42, 3) := by decide +kernel
theorem dX4_init_68 : decode cX4_init 68 = .ok (.putfield 43, 3) := by decide +kernel
theorem dX4_init_71 : decode cX4_init 71 = .ok (.iconst 0, 1) := by decide +kernel
theorem dX4_init_72 : decode cX4_init 72 = .ok (.istore_n 1, 1) := by decide +kernel
theorem dX4_init_73 : decode cX4_init 73 = .ok (.iload_n 1, 1) := by decide +kernel
theorem dX4_init_74 : decode cX4_init 74 = .ok (.iconst 2, 1) := by decide +kernel
theorem dX4_init_75 : decode cX4_init 75 = .ok (.if_icmp .ge 22, 3) := by decide +kernel
theorem dX4_init_78 : decode cX4_init 78 = .ok (.aload_n 0, 1) := by decide +kernel
theorem dX4_init_79 : decode cX4_init 79 = .ok (.getfield 19, 3) := by decide +kernel
theorem dX4_init_82 : decode cX4_init 82 = .ok (.iload_n 1, 1) := by decide +kernel
theorem dX4_init_83 : decode cX4_init 83 = .ok (.new 7, 3) := by decide +kernel
theorem dX4_init_86 : decode cX4_init 86 = .ok (.dup, 1) := by decide +kernel
theorem dX4_init_87 : decode cX4_init 87 = .ok (.invokespecial 9, 3) := by decide +kernel
theorem dX4_init_90 : decode cX4_init 90 = .ok (.aastore, 1) := by decide +kernel
theorem dX4_init_91 : decode cX4_init 91 = .ok (.iinc 1 1, 3) := by decide +kernel
theorem dX4_init_94 : decode cX4_init 94 = .ok (.goto (-21), 3) := by decide +kernel
theorem dX4_init_97 : decode cX4_init 97 = .ok (.iconst 0, 1) := by decide +kernel
theorem dX4_init_98 : decode cX4_init 98 = .ok (.istore_n 1, 1) := by decide +kernel
theorem dX4_init_99 : decode cX4_init 99 = .ok (.iload_n 1, 1) := by decide +kernel
theorem dX4_init_100 : decode cX4_init 100 = .ok (.iconst 4, 1) := by decide +kernel
theorem dX4_init_101 : decode cX4_init 101 = .ok (.if_icmp .ge 22, 3) := by decide +kernel
theorem dX4_init_104 : decode cX4_init 104 = .ok (.aload_n 0, 1) := by decide +kernel
theorem dX4_init_105 : decode cX4_init 105 = .ok (.getfield 29, 3) := by decide +kernel
theorem dX4_init_108 : decode cX4_init 108 = .ok (.iload_n 1, 1) := by decide +kernel
theorem dX4_init_109 : decode cX4_init 109 = .ok (.new 27, 3) := by decide +kernel
theorem dX4_init_112 : decode cX4_init 112 = .ok (.dup, 1) := by decide +kernel
theorem dX4_init_113 : decode cX4_init 113 = .ok (.invokespecial 47, 3) := by decide +kernel
theorem dX4_init_116 : decode cX4_init 116 = .ok (.aastore, 1) := by decide +kernel
theorem dX4_init_117 : decode cX4_init 117 = .ok (.iinc 1 1, 3) := by decide +kernel
theorem dX4_init_120 : decode cX4_init 120 = .ok (.goto (-21), 3) := by decide +kernel
theorem dX4_init_123 : decode cX4_init 123 = .ok (.return_, 1) := by decide +kernel
theorem dX4_feed_0 : decode cX4_feed 0 = .ok (.iload_n 1, 1) := by decide +kernel
theorem dX4_feed_1 : decode cX4_feed 1 = .ok (.ifCond .lt 9, 3) := by decide +kernel
theorem dX4_feed_4 : decode cX4_feed 4 = .ok (.iload_n 1, 1) := by decide +kernel
theorem dX4_feed_5 : decode cX4_feed 5 = .ok (.bipush 127, 2) := by decide +kernel
theorem dX4_feed_7 : decode cX4_feed 7 = .ok (.if_icmp .le 5, 3) := by decide +kernel
theorem dX4_feed_10 : decode cX4_feed 10 = .ok (.iconst (-1), 1) := by decide +kernel
theorem dX4_feed_11 : decode cX4_feed 11 = .ok (.ireturn, 1) := by decide +kernel
theorem dX4_feed_12 : decode cX4_feed 12 = .ok (.aload_n 0, 1) := by decide +kernel
theorem dX4_feed_13 : decode cX4_feed 13 = .ok (.getfield 43, 3) := by decide +kernel
theorem dX4_feed_16 : decode cX4_feed 16 = .ok (.getfield 48, 3) := by decide +kernel
theorem dX4_feed_19 : decode cX4_feed 19 = .ok (.sipush 160, 3) := by decide +kernel
theorem dX4_feed_22 : decode cX4_feed 22 = .ok (.if_icmp .lt 6, 3) := by decide +kernel
theorem dX4_feed_25 : decode cX4_feed 25 = .ok (.bipush (-3), 2) := by decide +kernel
theorem dX4_feed_27 : decode cX4_feed 27 = .ok (.ireturn, 1) := by decide +kernel
theorem dX4_feed_28 : decode cX4_feed 28 = .ok (.aload_n 0, 1) := by decide +kernel
theorem dX4_feed_29 : decode cX4_feed 29 = .ok (.getfield 43, 3) := by decide +kernel
theorem dX4_feed_32 : decode cX4_feed 32 = .ok (.getfield 52, 3) := by decide +kernel
theorem dX4_feed_35 : decode cX4_feed 35 = .ok (.aload_n 0, 1) := by decide +kernel
theorem dX4_feed_36 : decode cX4_feed 36 = .ok (.getfield 43, 3) := by decide +kernel
theorem dX4_feed_39 : decode cX4_feed 39 = .ok (.getfield 48, 3) := by decide +kernel
theorem dX4_feed_42 : decode cX4_feed 42 = .ok (.iload_n 1, 1) := by decide +kernel
theorem dX4_feed_43 : decode cX4_feed 43 = .ok (.i2b, 1) := by decide +kernel
theorem dX4_feed_44 : decode cX4_feed 44 = .ok (.bastore, 1) := by decide +kernel
theorem dX4_feed_45 : decode cX4_feed 45 = .ok (.aload_n 0, 1) := by decide +kernel
theorem dX4_feed_46 : decode cX4_feed 46 = .ok (.getfield 43, 3) := by decide +kernel
theorem dX4_feed_49 : decode cX4_feed 49 = .ok (.dup, 1) := by decide +kernel
theorem dX4_feed_50 : decode cX4_feed 50 = .ok (.getfield 48, 3) := by decide +kernel
theorem dX4_feed_53 : decode cX4_feed 53 = .ok (.iconst 1, 1) := by decide +kernel
theorem dX4_feed_54 : decode cX4_feed 54 = .ok (.iadd, 1) := by decide +kernel
theorem dX4_feed_55 : decode cX4_feed 55 = .ok (.putfield 48, 3) := by decide +kernel
theorem dX4_feed_58 : decode cX4_feed 58 = .ok (.aload_n 0, 1) := by decide +kernel
theorem dX4_feed_59 : decode cX4_feed 59 = .ok (.getfield 43, 3) := by decide +kernel
theorem dX4_feed_62 : decode cX4_feed 62 = .ok (.getfield 48, 3) := by decide +kernel
theorem dX4_feed_65 : decode cX4_feed 65 = .ok (.ireturn, 1) := by decide +kernel
theorem dX4_end_0 : decode cX4_end 0 = .ok (.iload_n 1, 1) := by decide +kernel
theorem dX4_end_1 : decode cX4_end 1 = .ok (.ifCond .lt 14, 3) := by decide +kernel
theorem dX4_end_4 : decode cX4_end 4 = .ok (.iload_n 1, 1) := by decide +kernel
theorem dX4_end_5 : decode cX4_end 5 = .ok (.aload_n 0, 1) := by decide +kernel
theorem dX4_end_6 : decode cX4_end 6 = .ok (.getfield 43, 3) := by decide +kernel
theorem dX4_end_9 : decode cX4_end 9 = .ok (.getfield 48, 3) := by decide +kernel
theorem dX4_end_12 : decode cX4_end 12 = .ok (.if_icmp .le 5, 3) := by decide +kernel
theorem dX4_end_15 : decode cX4_end 15 = .ok (.iconst (-1), 1) := by decide +kernel
theorem dX4_end_16 : decode cX4_end 16 = .ok (.ireturn, 1) := by decide +kernel
theorem dX4_end_17 : decode cX4_end 17 = .ok (.aload_n 0, 1) := by decide +kernel
theorem dX4_end_18 : decode cX4_end 18 = .ok (.getfield 43, 3) := by decide +kernel
theorem dX4_end_21 : decode cX4_end 21 = .ok (.getfield 48, 3) := by decide +kernel
theorem dX4_end_24 : decode cX4_end 24 = .ok (.istore_n 2, 1) := by decide +kernel
theorem dX4_end_25 : decode cX4_end 25 = .ok (.aload_n 0, 1) := by decide +kernel
theorem dX4_end_26 : decode cX4_end 26 = .ok (.getfield 43, 3) := by decide +kernel
theorem dX4_end_29 : decode cX4_end 29 = .ok (.iload_n 1, 1) := by decide +kernel
theorem dX4_end_30 : decode cX4_end 30 = .ok (.putfield 48, 3) := by decide +kernel
theorem dX4_end_33 : decode cX4_end 33 = .ok (.iload_n 2, 1) := by decide +kernel
theorem dX4_end_34 : decode cX4_end 34 = .ok (.ireturn, 1) := by decide +kernel
theorem dX4_text_0 : decode cX4_text 0 = .ok (.aload_n 0, 1) := by decide +kernel
theorem dX4_text_1 : decode cX4_text 1 = .ok (.getfield 43, 3) := by decide +kernel
theorem dX4_text_4 : decode cX4_text 4 = .ok (.aload_n 0, 1) := by decide +kernel
theorem dX4_text_5 : decode cX4_text 5 = .ok (.getfield 16, 3) := by decide +kernel
theorem dX4_text_8 : decode cX4_text 8 = .ok (.invokevirtual 56, 3) := by decide +kernel
theorem dX4_text_11 : decode cX4_text 11 = .ok (.istore_n 1, 1) := by decide +kernel
theorem dX4_text_12 : decode cX4_text 12 = .ok (.aload_n 0, 1) := by decide +kernel
theorem dX4_text_13 : decode cX4_text 13 = .ok (.getfield 43, 3) := by decide +kernel
theorem dX4_text_16 : decode cX4_text 16 = .ok (.getfield 60, 3) := by decide +kernel
theorem dX4_text_19 : decode cX4_text 19 = .ok (.ifCond .ne 18, 3) := by decide +kernel
theorem dX4_text_22 : decode cX4_text 22 = .ok (.aload_n 0, 1) := by decide +kernel
theorem dX4_text_23 : decode cX4_text 23 = .ok (.getfield 43, 3) := by decide +kernel
theorem dX4_text_26 : decode cX4_text 26 = .ok (.aload_n 0, 1) := by decide +kernel
theorem dX4_text_27 : decode cX4_text 27 = .ok (.aload_n 0, 1) := by decide +kernel
theorem dX4_text_28 : decode cX4_text 28 = .ok (.getfield 16, 3) := by decide +kernel
theorem dX4_text_31 : decode cX4_text 31 = .ok (.invokevirtual 63, 3) := by decide +kernel
theorem dX4_text_34 : decode cX4_text 34 = .ok (.invokevirtual 66, 3) := by decide +kernel
theorem dX4_text_37 : decode cX4_text 37 = .ok (.aload_n 0, 1) := by decide +kernel
theorem dX4_text_38 : decode cX4_text 38 = .ok (.getfield 36, 3) := by decide +kernel
theorem dX4_text_41 : decode cX4_text 41 = .ok (.invokevirtual 70, 3) := by decide +kernel
theorem dX4_text_44 : decode cX4_text 44 = .ok (.aload_n 0, 1) := by decide +kernel
theorem dX4_text_45 : decode cX4_text 45 = .ok (.getfield 43, 3) := by decide +kernel
theorem dX4_text_48 : decode cX4_text 48 = .ok (.iconst 0, 1) := by decide +kernel
theorem dX4_text_49 : decode cX4_text 49 = .ok (.putfield 48, 3) := by decide +kernel
theorem dX4_text_52 : decode cX4_text 52 = .ok (.aload_n 0, 1) := by decide +kernel
theorem dX4_text_53 : decode cX4_text 53 = .ok (.getfield 43, 3) := by decide +kernel
theorem dX4_text_56 : decode cX4_text 56 = .ok (.getfield 60, 3) := by decide +kernel
theorem dX4_text_59 : decode cX4_text 59 = .ok (.ifCond .eq 14, 3) := by decide +kernel
theorem dX4_text_62 : decode cX4_text 62 = .ok (.bipush (-10), 2) := by decide +kernel
theorem dX4_text_64 : decode cX4_text 64 = .ok (.aload_n 0, 1) := by decide +kernel
theorem dX4_text_65 : decode cX4_text 65 = .ok (.getfield 43, 3) := by decide +kernel
theorem dX4_text_68 : decode cX4_text 68 = .ok (.getfield 73, 3) := by decide +kernel
theorem dX4_text_71 : decode cX4_text 71 = .ok (.isub, 1) := by decide +kernel
theorem dX4_text_72 : decode cX4_text 72 = .ok (.ireturn, 1) := by decide +kernel
theorem dX4_text_73 : decode cX4_text 73 = .ok (.aload_n 0, 1) := by decide +kernel
theorem dX4_text_74 : decode cX4_text 74 = .ok (.getfield 10, 3) := by decide +kernel
theorem dX4_text_77 : decode cX4_text 77 = .ok (.aload_n 0, 1) := by decide +kernel
theorem dX4_text_78 : decode cX4_text 78 = .ok (.getfield 16, 3) := by decide +kernel
theorem dX4_text_81 : decode cX4_text 81 = .ok (.invokevirtual 76, 3) := by decide +kernel
theorem dX4_text_84 : decode cX4_text 84 = .ok (.iconst 0, 1) := by decide +kernel
theorem dX4_text_85 : decode cX4_text 85 = .ok (.istore_n 2, 1) := by decide +kernel
theorem dX4_text_86 : decode cX4_text 86 = .ok (.iload_n 2, 1) := by decide +kernel
theorem dX4_text_87 : decode cX4_text 87 = .ok (.iconst 2, 1) := by decide +kernel
theorem dX4_text_88 : decode cX4_text 88 = .ok (.if_icmp .ge 16, 3) := by decide +kernel
theorem dX4_text_91 : decode cX4_text 91 = .ok (.aload_n 0, 1) := by decide +kernel
theorem dX4_text_92 : decode cX4_text 92 = .ok (.getfield 23, 3) := by decide +kernel
theorem dX4_text_95 : decode cX4_text 95 = .ok (.iload_n 2, 1) := by decide +kernel
theorem dX4_text_96 : decode cX4_text 96 = .ok (.iconst 0, 1) := by decide +kernel
theorem dX4_text_97 : decode cX4_text 97 = .ok (.bastore, 1) := by decide +kernel
theorem dX4_text_98 : decode cX4_text 98 = .ok (.iinc 2 1, 3) := by decide +kernel
theorem dX4_text_101 : decode cX4_text 101 = .ok (.goto (-15), 3) := by decide +kernel
theorem dX4_text_104 : decode cX4_text 104 = .ok (.iload_n 1, 1) := by decide +kernel
theorem dX4_text_105 : decode cX4_text 105 = .ok (.ireturn, 1) := by decide +kernel
theorem dX4_fault_0 : decode cX4_fault 0 = .ok (.aload_n 0, 1) := by decide +kernel
theorem dX4_fault_1 : decode cX4_fault 1 = .ok (.getfield 43, 3) := by decide +kernel
theorem dX4_fault_4 : decode cX4_fault 4 = .ok (.getfield 60, 3) := by decide +kernel
theorem dX4_fault_7 : decode cX4_fault 7 = .ok (.ireturn, 1) := by decide +kernel
theorem dX4_rule_0 : decode cX4_rule 0 = .ok (.iload_n 1, 1) := by decide +kernel
theorem dX4_rule_1 : decode cX4_rule 1 = .ok (.tableswitch 127 0 8 #[51, 59, 67, 75, 84, 93, 101, 114, 122], 51) := by decide +kernel
theorem dX4_rule_52 : decode cX4_rule 52 = .ok (.aload_n 0, 1) := by decide +kernel
theorem dX4_rule_53 : decode cX4_rule 53 = .ok (.getfield 10, 3) := by decide +kernel
theorem dX4_rule_56 : decode cX4_rule 56 = .ok (.getfield 80, 3) := by decide +kernel
theorem dX4_rule_59 : decode cX4_rule 59 = .ok (.ireturn, 1) := by decide +kernel
theorem dX4_rule_60 : decode cX4_rule 60 = .ok (.aload_n 0, 1) := by decide +kernel
theorem dX4_rule_61 : decode cX4_rule 61 = .ok (.getfield 10, 3) := by decide +kernel
theorem dX4_rule_64 : decode cX4_rule 64 = .ok (.getfield 83, 3) := by decide +kernel
theorem dX4_rule_67 : decode cX4_rule 67 = .ok (.ireturn, 1) := by decide +kernel
theorem dX4_rule_68 : decode cX4_rule 68 = .ok (.aload_n 0, 1) := by decide +kernel
theorem dX4_rule_69 : decode cX4_rule 69 = .ok (.getfield 10, 3) := by decide +kernel
theorem dX4_rule_72 : decode cX4_rule 72 = .ok (.getfield 86, 3) := by decide +kernel
theorem dX4_rule_75 : decode cX4_rule 75 = .ok (.ireturn, 1) := by decide +kernel
theorem dX4_rule_76 : decode cX4_rule 76 = .ok (.aload_n 0, 1) := by decide +kernel
theorem dX4_rule_77 : decode cX4_rule 77 = .ok (.getfield 10, 3) := by decide +kernel
theorem dX4_rule_80 : decode cX4_rule 80 = .ok (.iconst 1, 1) := by decide +kernel
theorem dX4_rule_81 : decode cX4_rule 81 = .ok (.invokevirtual 89, 3) := by decide +kernel
theorem dX4_rule_84 : decode cX4_rule 84 = .ok (.ireturn, 1) := by decide +kernel
theorem dX4_rule_85 : decode cX4_rule 85 = .ok (.aload_n 0, 1) := by decide +kernel
theorem dX4_rule_86 : decode cX4_rule 86 = .ok (.getfield 10, 3) := by decide +kernel
theorem dX4_rule_89 : decode cX4_rule 89 = .ok (.iconst 2, 1) := by decide +kernel
theorem dX4_rule_90 : decode cX4_rule 90 = .ok (.invokevirtual 89, 3) := by decide +kernel
theorem dX4_rule_93 : decode cX4_rule 93 = .ok (.ireturn, 1) := by decide +kernel
theorem dX4_rule_94 : decode cX4_rule 94 = .ok (.aload_n 0, 1) := by decide +kernel
theorem dX4_rule_95 : decode cX4_rule 95 = .ok (.getfield 10, 3) := by decide +kernel
theorem dX4_rule_98 : decode cX4_rule 98 = .ok (.getfield 93, 3) := by decide +kernel
theorem dX4_rule_101 : decode cX4_rule 101 = .ok (.ireturn, 1) := by decide +kernel
theorem dX4_rule_102 : decode cX4_rule 102 = .ok (.aload_n 0, 1) := by decide +kernel
theorem dX4_rule_103 : decode cX4_rule 103 = .ok (.invokevirtual 96, 3) := by decide +kernel
theorem dX4_rule_106 : decode cX4_rule 106 = .ok (.ifCond .eq 7, 3) := by decide +kernel
theorem dX4_rule_109 : decode cX4_rule 109 = .ok (.iconst 1, 1) := by decide +kernel
theorem dX4_rule_110 : decode cX4_rule 110 = .ok (.goto 4, 3) := by decide +kernel
theorem dX4_rule_113 : decode cX4_rule 113 = .ok (.iconst 0, 1) := by decide +kernel
theorem dX4_rule_114 : decode cX4_rule 114 = .ok (.ireturn, 1) := by decide +kernel
theorem dX4_rule_115 : decode cX4_rule 115 = .ok (.aload_n 0, 1) := by decide +kernel
theorem dX4_rule_116 : decode cX4_rule 116 = .ok (.getfield 10, 3) := by decide +kernel
theorem dX4_rule_119 : decode cX4_rule 119 = .ok (.invokevirtual 100, 3) := by decide +kernel
theorem dX4_rule_122 : decode cX4_rule 122 = .ok (.ireturn, 1) := by decide +kernel
theorem dX4_rule_123 : decode cX4_rule 123 = .ok (.aload_n 0, 1) := by decide +kernel
theorem dX4_rule_124 : decode cX4_rule 124 = .ok (.invokevirtual 104, 3) := by decide +kernel
theorem dX4_rule_127 : decode cX4_rule 127 = .ok (.ireturn, 1) := by decide +kernel
theorem dX4_rule_128 : decode cX4_rule 128 = .ok (.iconst (-1), 1) := by decide +kernel
theorem dX4_rule_129 : decode cX4_rule 129 = .ok (.ireturn, 1) := by decide +kernel
theorem dX4_place_0 : decode cX4_place 0 = .ok (.aload_n 0, 1) := by decide +kernel
theorem dX4_place_1 : decode cX4_place 1 = .ok (.getfield 10, 3) := by decide +kernel
theorem dX4_place_4 : decode cX4_place 4 = .ok (.iload_n 1, 1) := by decide +kernel
theorem dX4_place_5 : decode cX4_place 5 = .ok (.invokevirtual 107, 3) := by decide +kernel
theorem dX4_place_8 : decode cX4_place 8 = .ok (.ifCond .ne 5, 3) := by decide +kernel
theorem dX4_place_11 : decode cX4_place 11 = .ok (.iconst (-1), 1) := by decide +kernel
theorem dX4_place_12 : decode cX4_place 12 = .ok (.ireturn, 1) := by decide +kernel
theorem dX4_place_13 : decode cX4_place 13 = .ok (.iload_n 2, 1) := by decide +kernel
theorem dX4_place_14 : decode cX4_place 14 = .ok (.tableswitch 119 0 5 #[38, 48, 48, 48, 82, 91], 38) := by decide +kernel
theorem dX4_place_52 : decode cX4_place 52 = .ok (.aload_n 0, 1) := by decide +kernel
theorem dX4_place_53 : decode cX4_place 53 = .ok (.getfield 10, 3) := by decide +kernel
theorem dX4_place_56 : decode cX4_place 56 = .ok (.getfield 111, 3) := by decide +kernel
theorem dX4_place_59 : decode cX4_place 59 = .ok (.iload_n 1, 1) := by decide +kernel
theorem dX4_place_60 : decode cX4_place 60 = .ok (.iaload, 1) := by decide +kernel
theorem dX4_place_61 : decode cX4_place 61 = .ok (.ireturn, 1) := by decide +kernel
theorem dX4_place_62 : decode cX4_place 62 = .ok (.iload_n 2, 1) := by decide +kernel
theorem dX4_place_63 : decode cX4_place 63 = .ok (.aload_n 0, 1) := by decide +kernel
theorem dX4_place_64 : decode cX4_place 64 = .ok (.getfield 10, 3) := by decide +kernel
theorem dX4_place_67 : decode cX4_place 67 = .ok (.getfield 111, 3) := by decide +kernel
theorem dX4_place_70 : decode cX4_place 70 = .ok (.iload_n 1, 1) := by decide +kernel
theorem dX4_place_71 : decode cX4_place 71 = .ok (.iaload, 1) := by decide +kernel
theorem dX4_place_72 : decode cX4_place 72 = .ok (.if_icmp .le 8, 3) := by decide +kernel
theorem dX4_place_75 : decode cX4_place 75 = .ok (.bipush (-4), 2) := by decide +kernel
theorem dX4_place_77 : decode cX4_place 77 = .ok (.goto 18, 3) := by decide +kernel
theorem dX4_place_80 : decode cX4_place 80 = .ok (.aload_n 0, 1) := by decide +kernel
theorem dX4_place_81 : decode cX4_place 81 = .ok (.getfield 10, 3) := by decide +kernel
theorem dX4_place_84 : decode cX4_place 84 = .ok (.getfield 115, 3) := by decide +kernel
theorem dX4_place_87 : decode cX4_place 87 = .ok (.iload_n 1, 1) := by decide +kernel
theorem dX4_place_88 : decode cX4_place 88 = .ok (.iconst 3, 1) := by decide +kernel
theorem dX4_place_89 : decode cX4_place 89 = .ok (.imul, 1) := by decide +kernel
theorem dX4_place_90 : decode cX4_place 90 = .ok (.iload_n 2, 1) := by decide +kernel
theorem dX4_place_91 : decode cX4_place 91 = .ok (.iadd, 1) := by decide +kernel
theorem dX4_place_92 : decode cX4_place 92 = .ok (.iconst 1, 1) := by decide +kernel
theorem dX4_place_93 : decode cX4_place 93 = .ok (.isub, 1) := by decide +kernel
theorem dX4_place_94 : decode cX4_place 94 = .ok (.iaload, 1) := by decide +kernel
theorem dX4_place_95 : decode cX4_place 95 = .ok (.ireturn, 1) := by decide +kernel
theorem dX4_place_96 : decode cX4_place 96 = .ok (.aload_n 0, 1) := by decide +kernel
theorem dX4_place_97 : decode cX4_place 97 = .ok (.getfield 10, 3) := by decide +kernel
theorem dX4_place_100 : decode cX4_place 100 = .ok (.iload_n 1, 1) := by decide +kernel
theorem dX4_place_101 : decode cX4_place 101 = .ok (.invokevirtual 118, 3) := by decide +kernel
theorem dX4_place_104 : decode cX4_place 104 = .ok (.ireturn, 1) := by decide +kernel
theorem dX4_place_105 : decode cX4_place 105 = .ok (.iload_n 1, 1) := by decide +kernel
theorem dX4_place_106 : decode cX4_place 106 = .ok (.aload_n 0, 1) := by decide +kernel
theorem dX4_place_107 : decode cX4_place 107 = .ok (.getfield 10, 3) := by decide +kernel
theorem dX4_place_110 : decode cX4_place 110 = .ok (.getfield 80, 3) := by decide +kernel
theorem dX4_place_113 : decode cX4_place 113 = .ok (.iconst 1, 1) := by decide +kernel
theorem dX4_place_114 : decode cX4_place 114 = .ok (.isub, 1) := by decide +kernel
theorem dX4_place_115 : decode cX4_place 115 = .ok (.if_icmp .ne 8, 3) := by decide +kernel
theorem dX4_place_118 : decode cX4_place 118 = .ok (.bipush (-4), 2) := by decide +kernel
theorem dX4_place_120 : decode cX4_place 120 = .ok (.goto 12, 3) := by decide +kernel
theorem dX4_place_123 : decode cX4_place 123 = .ok (.aload_n 0, 1) := by decide +kernel
theorem dX4_place_124 : decode cX4_place 124 = .ok (.getfield 10, 3) := by decide +kernel
theorem dX4_place_127 : decode cX4_place 127 = .ok (.getfield 121, 3) := by decide +kernel
theorem dX4_place_130 : decode cX4_place 130 = .ok (.iload_n 1, 1) := by decide +kernel
theorem dX4_place_131 : decode cX4_place 131 = .ok (.iaload, 1) := by decide +kernel
theorem dX4_place_132 : decode cX4_place 132 = .ok (.ireturn, 1) := by decide +kernel
theorem dX4_place_133 : decode cX4_place 133 = .ok (.iconst (-1), 1) := by decide +kernel
theorem dX4_place_134 : decode cX4_place 134 = .ok (.ireturn, 1) := by decide +kernel
theorem dX4_train_0 : decode cX4_train 0 = .ok (.aload_n 0, 1) := by decide +kernel
theorem dX4_train_1 : decode cX4_train 1 = .ok (.getfield 10, 3) := by decide +kernel
theorem dX4_train_4 : decode cX4_train 4 = .ok (.iload_n 1, 1) := by decide +kernel
theorem dX4_train_5 : decode cX4_train 5 = .ok (.invokevirtual 124, 3) := by decide +kernel
theorem dX4_train_8 : decode cX4_train 8 = .ok (.ifCond .ne 5, 3) := by decide +kernel
theorem dX4_train_11 : decode cX4_train 11 = .ok (.iconst (-1), 1) := by decide +kernel
theorem dX4_train_12 : decode cX4_train 12 = .ok (.ireturn, 1) := by decide +kernel
theorem dX4_train_13 : decode cX4_train 13 = .ok (.iload_n 2, 1) := by decide +kernel
theorem dX4_train_14 : decode cX4_train 14 = .ok (.tableswitch 153 0 6 #[42, 52, 62, 72, 107, 117, 144], 42) := by decide +kernel
theorem dX4_train_56 : decode cX4_train 56 = .ok (.aload_n 0, 1) := by decide +kernel
theorem dX4_train_57 : decode cX4_train 57 = .ok (.getfield 10, 3) := by decide +kernel
theorem dX4_train_60 : decode cX4_train 60 = .ok (.getfield 127, 3) := by decide +kernel
theorem dX4_train_63 : decode cX4_train 63 = .ok (.iload_n 1, 1) := by decide +kernel
theorem dX4_train_64 : decode cX4_train 64 = .ok (.iaload, 1) := by decide +kernel
theorem dX4_train_65 : decode cX4_train 65 = .ok (.ireturn, 1) := by decide +kernel
theorem dX4_train_66 : decode cX4_train 66 = .ok (.aload_n 0, 1) := by decide +kernel
theorem dX4_train_67 : decode cX4_train 67 = .ok (.getfield 10, 3) := by decide +kernel
theorem dX4_train_70 : decode cX4_train 70 = .ok (.getfield 130, 3) := by decide +kernel
theorem dX4_train_73 : decode cX4_train 73 = .ok (.iload_n 1, 1) := by decide +kernel
theorem dX4_train_74 : decode cX4_train 74 = .ok (.iaload, 1) := by decide +kernel
theorem dX4_train_75 : decode cX4_train 75 = .ok (.ireturn, 1) := by decide +kernel
theorem dX4_train_76 : decode cX4_train 76 = .ok (.aload_n 0, 1) := by decide +kernel
theorem dX4_train_77 : decode cX4_train 77 = .ok (.getfield 10, 3) := by decide +kernel
theorem dX4_train_80 : decode cX4_train 80 = .ok (.getfield 133, 3) := by decide +kernel
theorem dX4_train_83 : decode cX4_train 83 = .ok (.iload_n 1, 1) := by decide +kernel
theorem dX4_train_84 : decode cX4_train 84 = .ok (.iaload, 1) := by decide +kernel
theorem dX4_train_85 : decode cX4_train 85 = .ok (.ireturn, 1) := by decide +kernel
theorem dX4_train_86 : decode cX4_train 86 = .ok (.aload_n 0, 1) := by decide +kernel
theorem dX4_train_87 : decode cX4_train 87 = .ok (.getfield 10, 3) := by decide +kernel
theorem dX4_train_90 : decode cX4_train 90 = .ok (.getfield 135, 3) := by decide +kernel
theorem dX4_train_93 : decode cX4_train 93 = .ok (.iload_n 1, 1) := by decide +kernel
theorem dX4_train_94 : decode cX4_train 94 = .ok (.iaload, 1) := by decide +kernel
theorem dX4_train_95 : decode cX4_train 95 = .ok (.ifCond .ne 8, 3) := by decide +kernel
theorem dX4_train_98 : decode cX4_train 98 = .ok (.bipush (-4), 2) := by decide +kernel
theorem dX4_train_100 : decode cX4_train 100 = .ok (.goto 20, 3) := by decide +kernel
theorem dX4_train_103 : decode cX4_train 103 = .ok (.aload_n 0, 1) := by decide +kernel
theorem dX4_train_104 : decode cX4_train 104 = .ok (.getfield 10, 3) := by decide +kernel
theorem dX4_train_107 : decode cX4_train 107 = .ok (.iload_n 1, 1) := by decide +kernel
theorem dX4_train_108 : decode cX4_train 108 = .ok (.aload_n 0, 1) := by decide +kernel
theorem dX4_train_109 : decode cX4_train 109 = .ok (.getfield 10, 3) := by decide +kernel
theorem dX4_train_112 : decode cX4_train 112 = .ok (.getfield 135, 3) := by decide +kernel
theorem dX4_train_115 : decode cX4_train 115 = .ok (.iload_n 1, 1) := by decide +kernel
theorem dX4_train_116 : decode cX4_train 116 = .ok (.iaload, 1) := by decide +kernel
theorem dX4_train_117 : decode cX4_train 117 = .ok (.invokevirtual 138, 3) := by decide +kernel
theorem dX4_train_120 : decode cX4_train 120 = .ok (.ireturn, 1) := by decide +kernel
theorem dX4_train_121 : decode cX4_train 121 = .ok (.aload_n 0, 1) := by decide +kernel
theorem dX4_train_122 : decode cX4_train 122 = .ok (.getfield 10, 3) := by decide +kernel
theorem dX4_train_125 : decode cX4_train 125 = .ok (.getfield 142, 3) := by decide +kernel
theorem dX4_train_128 : decode cX4_train 128 = .ok (.iload_n 1, 1) := by decide +kernel
theorem dX4_train_129 : decode cX4_train 129 = .ok (.iaload, 1) := by decide +kernel
theorem dX4_train_130 : decode cX4_train 130 = .ok (.ireturn, 1) := by decide +kernel
theorem dX4_train_131 : decode cX4_train 131 = .ok (.aload_n 0, 1) := by decide +kernel
theorem dX4_train_132 : decode cX4_train 132 = .ok (.getfield 10, 3) := by decide +kernel
theorem dX4_train_135 : decode cX4_train 135 = .ok (.getfield 142, 3) := by decide +kernel
theorem dX4_train_138 : decode cX4_train 138 = .ok (.iload_n 1, 1) := by decide +kernel
theorem dX4_train_139 : decode cX4_train 139 = .ok (.iaload, 1) := by decide +kernel
theorem dX4_train_140 : decode cX4_train 140 = .ok (.ifCond .ne 8, 3) := by decide +kernel
theorem dX4_train_143 : decode cX4_train 143 = .ok (.bipush (-4), 2) := by decide +kernel
theorem dX4_train_145 : decode cX4_train 145 = .ok (.goto 12, 3) := by decide +kernel
theorem dX4_train_148 : decode cX4_train 148 = .ok (.aload_n 0, 1) := by decide +kernel
theorem dX4_train_149 : decode cX4_train 149 = .ok (.getfield 10, 3) := by decide +kernel
theorem dX4_train_152 : decode cX4_train 152 = .ok (.getfield 145, 3) := by decide +kernel
theorem dX4_train_155 : decode cX4_train 155 = .ok (.iload_n 1, 1) := by decide +kernel
theorem dX4_train_156 : decode cX4_train 156 = .ok (.iaload, 1) := by decide +kernel
theorem dX4_train_157 : decode cX4_train 157 = .ok (.ireturn, 1) := by decide +kernel
theorem dX4_train_158 : decode cX4_train 158 = .ok (.aload_n 0, 1) := by decide +kernel
theorem dX4_train_159 : decode cX4_train 159 = .ok (.getfield 10, 3) := by decide +kernel
theorem dX4_train_162 : decode cX4_train 162 = .ok (.iload_n 1, 1) := by decide +kernel
theorem dX4_train_163 : decode cX4_train 163 = .ok (.invokevirtual 148, 3) := by decide +kernel
theorem dX4_train_166 : decode cX4_train 166 = .ok (.ireturn, 1) := by decide +kernel
theorem dX4_train_167 : decode cX4_train 167 = .ok (.iconst (-1), 1) := by decide +kernel
theorem dX4_train_168 : decode cX4_train 168 = .ok (.ireturn, 1) := by decide +kernel
theorem dX4_why_0 : decode cX4_why 0 = .ok (.aload_n 0, 1) := by decide +kernel
theorem dX4_why_1 : decode cX4_why 1 = .ok (.getfield 10, 3) := by decide +kernel
theorem dX4_why_4 : decode cX4_why 4 = .ok (.iload_n 1, 1) := by decide +kernel
theorem dX4_why_5 : decode cX4_why 5 = .ok (.invokevirtual 124, 3) := by decide +kernel
theorem dX4_why_8 : decode cX4_why 8 = .ok (.ifCond .ne 5, 3) := by decide +kernel
theorem dX4_why_11 : decode cX4_why 11 = .ok (.iconst (-1), 1) := by decide +kernel
theorem dX4_why_12 : decode cX4_why 12 = .ok (.ireturn, 1) := by decide +kernel
theorem dX4_why_13 : decode cX4_why 13 = .ok (.aload_n 0, 1) := by decide +kernel
theorem dX4_why_14 : decode cX4_why 14 = .ok (.getfield 36, 3) := by decide +kernel
theorem dX4_why_17 : decode cX4_why 17 = .ok (.aload_n 0, 1) := by decide +kernel
theorem dX4_why_18 : decode cX4_why 18 = .ok (.getfield 10, 3) := by decide +kernel
theorem dX4_why_21 : decode cX4_why 21 = .ok (.invokevirtual 151, 3) := by decide +kernel
theorem dX4_why_24 : decode cX4_why 24 = .ok (.aload_n 0, 1) := by decide +kernel
theorem dX4_why_25 : decode cX4_why 25 = .ok (.aload_n 0, 1) := by decide +kernel
theorem dX4_why_26 : decode cX4_why 26 = .ok (.getfield 10, 3) := by decide +kernel
theorem dX4_why_29 : decode cX4_why 29 = .ok (.iload_n 1, 1) := by decide +kernel
theorem dX4_why_30 : decode cX4_why 30 = .ok (.invokevirtual 154, 3) := by decide +kernel
theorem dX4_why_33 : decode cX4_why 33 = .ok (.ireturn, 1) := by decide +kernel
theorem dX4_who_0 : decode cX4_who 0 = .ok (.aload_n 0, 1) := by decide +kernel
theorem dX4_who_1 : decode cX4_who 1 = .ok (.getfield 10, 3) := by decide +kernel
theorem dX4_who_4 : decode cX4_who 4 = .ok (.iload_n 1, 1) := by decide +kernel
theorem dX4_who_5 : decode cX4_who 5 = .ok (.invokevirtual 124, 3) := by decide +kernel
theorem dX4_who_8 : decode cX4_who 8 = .ok (.ifCond .ne 5, 3) := by decide +kernel
theorem dX4_who_11 : decode cX4_who 11 = .ok (.iconst (-1), 1) := by decide +kernel
theorem dX4_who_12 : decode cX4_who 12 = .ok (.ireturn, 1) := by decide +kernel
theorem dX4_who_13 : decode cX4_who 13 = .ok (.aload_n 0, 1) := by decide +kernel
theorem dX4_who_14 : decode cX4_who 14 = .ok (.getfield 36, 3) := by decide +kernel
theorem dX4_who_17 : decode cX4_who 17 = .ok (.aload_n 0, 1) := by decide +kernel
theorem dX4_who_18 : decode cX4_who 18 = .ok (.getfield 10, 3) := by decide +kernel
theorem dX4_who_21 : decode cX4_who 21 = .ok (.invokevirtual 151, 3) := by decide +kernel
theorem dX4_who_24 : decode cX4_who 24 = .ok (.aload_n 0, 1) := by decide +kernel
theorem dX4_who_25 : decode cX4_who 25 = .ok (.aload_n 0, 1) := by decide +kernel
theorem dX4_who_26 : decode cX4_who 26 = .ok (.getfield 10, 3) := by decide +kernel
theorem dX4_who_29 : decode cX4_who 29 = .ok (.iload_n 1, 1) := by decide +kernel
theorem dX4_who_30 : decode cX4_who 30 = .ok (.invokevirtual 154, 3) := by decide +kernel
theorem dX4_who_33 : decode cX4_who 33 = .ok (.tableswitch 78 3 5 #[27, 52, 65], 27) := by decide +kernel
theorem dX4_who_60 : decode cX4_who 60 = .ok (.aload_n 0, 1) := by decide +kernel
theorem dX4_who_61 : decode cX4_who 61 = .ok (.getfield 10, 3) := by decide +kernel
theorem dX4_who_64 : decode cX4_who 64 = .ok (.aload_n 0, 1) := by decide +kernel
theorem dX4_who_65 : decode cX4_who 65 = .ok (.getfield 10, 3) := by decide +kernel
theorem dX4_who_68 : decode cX4_who 68 = .ok (.iload_n 1, 1) := by decide +kernel
theorem dX4_who_69 : decode cX4_who 69 = .ok (.aload_n 0, 1) := by decide +kernel
theorem dX4_who_70 : decode cX4_who 70 = .ok (.getfield 10, 3) := by decide +kernel
theorem dX4_who_73 : decode cX4_who 73 = .ok (.getfield 135, 3) := by decide +kernel
theorem dX4_who_76 : decode cX4_who 76 = .ok (.iload_n 1, 1) := by decide +kernel
theorem dX4_who_77 : decode cX4_who 77 = .ok (.iaload, 1) := by decide +kernel
theorem dX4_who_78 : decode cX4_who 78 = .ok (.invokevirtual 158, 3) := by decide +kernel
theorem dX4_who_81 : decode cX4_who 81 = .ok (.invokevirtual 161, 3) := by decide +kernel
theorem dX4_who_84 : decode cX4_who 84 = .ok (.ireturn, 1) := by decide +kernel
theorem dX4_who_85 : decode cX4_who 85 = .ok (.aload_n 0, 1) := by decide +kernel
theorem dX4_who_86 : decode cX4_who 86 = .ok (.getfield 36, 3) := by decide +kernel
theorem dX4_who_89 : decode cX4_who 89 = .ok (.aload_n 0, 1) := by decide +kernel
theorem dX4_who_90 : decode cX4_who 90 = .ok (.getfield 10, 3) := by decide +kernel
theorem dX4_who_93 : decode cX4_who 93 = .ok (.iload_n 1, 1) := by decide +kernel
theorem dX4_who_94 : decode cX4_who 94 = .ok (.invokevirtual 164, 3) := by decide +kernel
theorem dX4_who_97 : decode cX4_who 97 = .ok (.ireturn, 1) := by decide +kernel
theorem dX4_who_98 : decode cX4_who 98 = .ok (.aload_n 0, 1) := by decide +kernel
theorem dX4_who_99 : decode cX4_who 99 = .ok (.getfield 36, 3) := by decide +kernel
theorem dX4_who_102 : decode cX4_who 102 = .ok (.aload_n 0, 1) := by decide +kernel
theorem dX4_who_103 : decode cX4_who 103 = .ok (.getfield 10, 3) := by decide +kernel
theorem dX4_who_106 : decode cX4_who 106 = .ok (.iload_n 1, 1) := by decide +kernel
theorem dX4_who_107 : decode cX4_who 107 = .ok (.invokevirtual 167, 3) := by decide +kernel
theorem dX4_who_110 : decode cX4_who 110 = .ok (.ireturn, 1) := by decide +kernel
theorem dX4_who_111 : decode cX4_who 111 = .ok (.bipush (-4), 2) := by decide +kernel
theorem dX4_who_113 : decode cX4_who 113 = .ok (.ireturn, 1) := by decide +kernel
theorem dX4_order_0 : decode cX4_order 0 = .ok (.iload_n 1, 1) := by decide +kernel
theorem dX4_order_1 : decode cX4_order 1 = .ok (.ifCond .ge 5, 3) := by decide +kernel
theorem dX4_order_4 : decode cX4_order 4 = .ok (.iconst (-1), 1) := by decide +kernel
theorem dX4_order_5 : decode cX4_order 5 = .ok (.ireturn, 1) := by decide +kernel
theorem dX4_order_6 : decode cX4_order 6 = .ok (.aload_n 0, 1) := by decide +kernel
theorem dX4_order_7 : decode cX4_order 7 = .ok (.getfield 36, 3) := by decide +kernel
theorem dX4_order_10 : decode cX4_order 10 = .ok (.aload_n 0, 1) := by decide +kernel
theorem dX4_order_11 : decode cX4_order 11 = .ok (.getfield 10, 3) := by decide +kernel
theorem dX4_order_14 : decode cX4_order 14 = .ok (.invokevirtual 170, 3) := by decide +kernel
theorem dX4_order_17 : decode cX4_order 17 = .ok (.iload_n 1, 1) := by decide +kernel
theorem dX4_order_18 : decode cX4_order 18 = .ok (.aload_n 0, 1) := by decide +kernel
theorem dX4_order_19 : decode cX4_order 19 = .ok (.getfield 36, 3) := by decide +kernel
theorem dX4_order_22 : decode cX4_order 22 = .ok (.aload_n 0, 1) := by decide +kernel
theorem dX4_order_23 : decode cX4_order 23 = .ok (.getfield 10, 3) := by decide +kernel
theorem dX4_order_26 : decode cX4_order 26 = .ok (.invokevirtual 173, 3) := by decide +kernel
theorem dX4_order_29 : decode cX4_order 29 = .ok (.if_icmp .ge 15, 3) := by decide +kernel
theorem dX4_order_32 : decode cX4_order 32 = .ok (.aload_n 0, 1) := by decide +kernel
theorem dX4_order_33 : decode cX4_order 33 = .ok (.getfield 36, 3) := by decide +kernel
theorem dX4_order_36 : decode cX4_order 36 = .ok (.getfield 176, 3) := by decide +kernel
theorem dX4_order_39 : decode cX4_order 39 = .ok (.iload_n 1, 1) := by decide +kernel
theorem dX4_order_40 : decode cX4_order 40 = .ok (.iaload, 1) := by decide +kernel
theorem dX4_order_41 : decode cX4_order 41 = .ok (.goto 5, 3) := by decide +kernel
theorem dX4_order_44 : decode cX4_order 44 = .ok (.bipush (-4), 2) := by decide +kernel
theorem dX4_order_46 : decode cX4_order 46 = .ok (.ireturn, 1) := by decide +kernel
theorem dX4_reach_0 : decode cX4_reach 0 = .ok (.iload_n 1, 1) := by decide +kernel
theorem dX4_reach_1 : decode cX4_reach 1 = .ok (.ifCond .lt 8, 3) := by decide +kernel
theorem dX4_reach_4 : decode cX4_reach 4 = .ok (.iload_n 1, 1) := by decide +kernel
theorem dX4_reach_5 : decode cX4_reach 5 = .ok (.iconst 1, 1) := by decide +kernel
theorem dX4_reach_6 : decode cX4_reach 6 = .ok (.if_icmp .le 5, 3) := by decide +kernel
theorem dX4_reach_9 : decode cX4_reach 9 = .ok (.iconst (-1), 1) := by decide +kernel
theorem dX4_reach_10 : decode cX4_reach 10 = .ok (.ireturn, 1) := by decide +kernel
theorem dX4_reach_11 : decode cX4_reach 11 = .ok (.aload_n 0, 1) := by decide +kernel
theorem dX4_reach_12 : decode cX4_reach 12 = .ok (.getfield 36, 3) := by decide +kernel
theorem dX4_reach_15 : decode cX4_reach 15 = .ok (.aload_n 0, 1) := by decide +kernel
theorem dX4_reach_16 : decode cX4_reach 16 = .ok (.getfield 10, 3) := by decide +kernel
theorem dX4_reach_19 : decode cX4_reach 19 = .ok (.invokevirtual 151, 3) := by decide +kernel
theorem dX4_reach_22 : decode cX4_reach 22 = .ok (.aload_n 0, 1) := by decide +kernel
theorem dX4_reach_23 : decode cX4_reach 23 = .ok (.getfield 36, 3) := by decide +kernel
theorem dX4_reach_26 : decode cX4_reach 26 = .ok (.aload_n 0, 1) := by decide +kernel
theorem dX4_reach_27 : decode cX4_reach 27 = .ok (.getfield 10, 3) := by decide +kernel
theorem dX4_reach_30 : decode cX4_reach 30 = .ok (.iload_n 1, 1) := by decide +kernel
theorem dX4_reach_31 : decode cX4_reach 31 = .ok (.iconst 1, 1) := by decide +kernel
theorem dX4_reach_32 : decode cX4_reach 32 = .ok (.if_icmp .ne 7, 3) := by decide +kernel
theorem dX4_reach_35 : decode cX4_reach 35 = .ok (.iconst 1, 1) := by decide +kernel
theorem dX4_reach_36 : decode cX4_reach 36 = .ok (.goto 4, 3) := by decide +kernel
theorem dX4_reach_39 : decode cX4_reach 39 = .ok (.iconst 0, 1) := by decide +kernel
theorem dX4_reach_40 : decode cX4_reach 40 = .ok (.invokevirtual 179, 3) := by decide +kernel
theorem dX4_reach_43 : decode cX4_reach 43 = .ok (.ireturn, 1) := by decide +kernel
theorem dX4_plan_0 : decode cX4_plan 0 = .ok (.iload_n 1, 1) := by decide +kernel
theorem dX4_plan_1 : decode cX4_plan 1 = .ok (.invokestatic 183, 3) := by decide +kernel
theorem dX4_plan_4 : decode cX4_plan 4 = .ok (.ifCond .eq 12, 3) := by decide +kernel
theorem dX4_plan_7 : decode cX4_plan 7 = .ok (.iload_n 2, 1) := by decide +kernel
theorem dX4_plan_8 : decode cX4_plan 8 = .ok (.ifCond .lt 8, 3) := by decide +kernel
theorem dX4_plan_11 : decode cX4_plan 11 = .ok (.iload_n 2, 1) := by decide +kernel
theorem dX4_plan_12 : decode cX4_plan 12 = .ok (.iconst 1, 1) := by decide +kernel
theorem dX4_plan_13 : decode cX4_plan 13 = .ok (.if_icmp .le 5, 3) := by decide +kernel
theorem dX4_plan_16 : decode cX4_plan 16 = .ok (.iconst (-1), 1) := by decide +kernel
theorem dX4_plan_17 : decode cX4_plan 17 = .ok (.ireturn, 1) := by decide +kernel
theorem dX4_plan_18 : decode cX4_plan 18 = .ok (.aload_n 0, 1) := by decide +kernel
theorem dX4_plan_19 : decode cX4_plan 19 = .ok (.iload_n 1, 1) := by decide +kernel
theorem dX4_plan_20 : decode cX4_plan 20 = .ok (.iload_n 2, 1) := by decide +kernel
theorem dX4_plan_21 : decode cX4_plan 21 = .ok (.iconst 1, 1) := by decide +kernel
theorem dX4_plan_22 : decode cX4_plan 22 = .ok (.if_icmp .ne 7, 3) := by decide +kernel
theorem dX4_plan_25 : decode cX4_plan 25 = .ok (.iconst 1, 1) := by decide +kernel
theorem dX4_plan_26 : decode cX4_plan 26 = .ok (.goto 4, 3) := by decide +kernel
theorem dX4_plan_29 : decode cX4_plan 29 = .ok (.iconst 0, 1) := by decide +kernel
theorem dX4_plan_30 : decode cX4_plan 30 = .ok (.invokevirtual 186, 3) := by decide +kernel
theorem dX4_plan_33 : decode cX4_plan 33 = .ok (.ireturn, 1) := by decide +kernel
theorem dX4_best_0 : decode cX4_best 0 = .ok (.aload_n 0, 1) := by decide +kernel
theorem dX4_best_1 : decode cX4_best 1 = .ok (.getfield 10, 3) := by decide +kernel
theorem dX4_best_4 : decode cX4_best 4 = .ok (.getfield 83, 3) := by decide +kernel
theorem dX4_best_7 : decode cX4_best 7 = .ok (.ifCond .ne 6, 3) := by decide +kernel
theorem dX4_best_10 : decode cX4_best 10 = .ok (.bipush (-4), 2) := by decide +kernel
theorem dX4_best_12 : decode cX4_best 12 = .ok (.ireturn, 1) := by decide +kernel
theorem dX4_best_13 : decode cX4_best 13 = .ok (.iconst 0, 1) := by decide +kernel
theorem dX4_best_14 : decode cX4_best 14 = .ok (.istore_n 1, 1) := by decide +kernel
theorem dX4_best_15 : decode cX4_best 15 = .ok (.aload_n 0, 1) := by decide +kernel
theorem dX4_best_16 : decode cX4_best 16 = .ok (.iconst 0, 1) := by decide +kernel
theorem dX4_best_17 : decode cX4_best 17 = .ok (.iconst 1, 1) := by decide +kernel
theorem dX4_best_18 : decode cX4_best 18 = .ok (.invokevirtual 186, 3) := by decide +kernel
theorem dX4_best_21 : decode cX4_best 21 = .ok (.istore_n 2, 1) := by decide +kernel
theorem dX4_best_22 : decode cX4_best 22 = .ok (.iconst 1, 1) := by decide +kernel
theorem dX4_best_23 : decode cX4_best 23 = .ok (.istore_n 3, 1) := by decide +kernel
theorem dX4_best_24 : decode cX4_best 24 = .ok (.iload_n 3, 1) := by decide +kernel
theorem dX4_best_25 : decode cX4_best 25 = .ok (.iconst 3, 1) := by decide +kernel
theorem dX4_best_26 : decode cX4_best 26 = .ok (.if_icmp .ge 28, 3) := by decide +kernel
theorem dX4_best_29 : decode cX4_best 29 = .ok (.aload_n 0, 1) := by decide +kernel
theorem dX4_best_30 : decode cX4_best 30 = .ok (.iload_n 3, 1) := by decide +kernel
theorem dX4_best_31 : decode cX4_best 31 = .ok (.iconst 1, 1) := by decide +kernel
theorem dX4_best_32 : decode cX4_best 32 = .ok (.invokevirtual 186, 3) := by decide +kernel
theorem dX4_best_35 : decode cX4_best 35 = .ok (.istore 4, 2) := by decide +kernel
theorem dX4_best_37 : decode cX4_best 37 = .ok (.iload 4, 2) := by decide +kernel
theorem dX4_best_39 : decode cX4_best 39 = .ok (.iload_n 2, 1) := by decide +kernel
theorem dX4_best_40 : decode cX4_best 40 = .ok (.if_icmp .ge 8, 3) := by decide +kernel
theorem dX4_best_43 : decode cX4_best 43 = .ok (.iload 4, 2) := by decide +kernel
theorem dX4_best_45 : decode cX4_best 45 = .ok (.istore_n 2, 1) := by decide +kernel
theorem dX4_best_46 : decode cX4_best 46 = .ok (.iload_n 3, 1) := by decide +kernel
theorem dX4_best_47 : decode cX4_best 47 = .ok (.istore_n 1, 1) := by decide +kernel
theorem dX4_best_48 : decode cX4_best 48 = .ok (.iinc 3 1, 3) := by decide +kernel
theorem dX4_best_51 : decode cX4_best 51 = .ok (.goto (-27), 3) := by decide +kernel
theorem dX4_best_54 : decode cX4_best 54 = .ok (.iload_n 1, 1) := by decide +kernel
theorem dX4_best_55 : decode cX4_best 55 = .ok (.ireturn, 1) := by decide +kernel
theorem dX4_let_0 : decode cX4_let 0 = .ok (.aload_n 0, 1) := by decide +kernel
theorem dX4_let_1 : decode cX4_let 1 = .ok (.getfield 10, 3) := by decide +kernel
theorem dX4_let_4 : decode cX4_let 4 = .ok (.iload_n 1, 1) := by decide +kernel
theorem dX4_let_5 : decode cX4_let 5 = .ok (.invokevirtual 124, 3) := by decide +kernel
theorem dX4_let_8 : decode cX4_let 8 = .ok (.ifCond .ne 5, 3) := by decide +kernel
theorem dX4_let_11 : decode cX4_let 11 = .ok (.iconst (-1), 1) := by decide +kernel
theorem dX4_let_12 : decode cX4_let 12 = .ok (.ireturn, 1) := by decide +kernel
theorem dX4_let_13 : decode cX4_let 13 = .ok (.aload_n 0, 1) := by decide +kernel
theorem dX4_let_14 : decode cX4_let 14 = .ok (.getfield 36, 3) := by decide +kernel
theorem dX4_let_17 : decode cX4_let 17 = .ok (.aload_n 0, 1) := by decide +kernel
theorem dX4_let_18 : decode cX4_let 18 = .ok (.getfield 10, 3) := by decide +kernel
theorem dX4_let_21 : decode cX4_let 21 = .ok (.invokevirtual 151, 3) := by decide +kernel
theorem dX4_let_24 : decode cX4_let 24 = .ok (.aload_n 0, 1) := by decide +kernel
theorem dX4_let_25 : decode cX4_let 25 = .ok (.aload_n 0, 1) := by decide +kernel
theorem dX4_let_26 : decode cX4_let 26 = .ok (.getfield 10, 3) := by decide +kernel
theorem dX4_let_29 : decode cX4_let 29 = .ok (.iload_n 1, 1) := by decide +kernel
theorem dX4_let_30 : decode cX4_let 30 = .ok (.invokevirtual 154, 3) := by decide +kernel
theorem dX4_let_33 : decode cX4_let 33 = .ok (.ifCond .eq 6, 3) := by decide +kernel
theorem dX4_let_36 : decode cX4_let 36 = .ok (.bipush (-2), 2) := by decide +kernel
theorem dX4_let_38 : decode cX4_let 38 = .ok (.ireturn, 1) := by decide +kernel
theorem dX4_let_39 : decode cX4_let 39 = .ok (.aload_n 0, 1) := by decide +kernel
theorem dX4_let_40 : decode cX4_let 40 = .ok (.getfield 10, 3) := by decide +kernel
theorem dX4_let_43 : decode cX4_let 43 = .ok (.iload_n 1, 1) := by decide +kernel
theorem dX4_let_44 : decode cX4_let 44 = .ok (.invokevirtual 190, 3) := by decide +kernel
theorem dX4_let_47 : decode cX4_let 47 = .ok (.aload_n 0, 1) := by decide +kernel
theorem dX4_let_48 : decode cX4_let 48 = .ok (.getfield 10, 3) := by decide +kernel
theorem dX4_let_51 : decode cX4_let 51 = .ok (.getfield 145, 3) := by decide +kernel
theorem dX4_let_54 : decode cX4_let 54 = .ok (.iload_n 1, 1) := by decide +kernel
theorem dX4_let_55 : decode cX4_let 55 = .ok (.iaload, 1) := by decide +kernel
theorem dX4_let_56 : decode cX4_let 56 = .ok (.ireturn, 1) := by decide +kernel
theorem dX4_tick_0 : decode cX4_tick 0 = .ok (.iload_n 1, 1) := by decide +kernel
theorem dX4_tick_1 : decode cX4_tick 1 = .ok (.iconst 1, 1) := by decide +kernel
theorem dX4_tick_2 : decode cX4_tick 2 = .ok (.if_icmp .lt 9, 3) := by decide +kernel
theorem dX4_tick_5 : decode cX4_tick 5 = .ok (.iload_n 1, 1) := by decide +kernel
theorem dX4_tick_6 : decode cX4_tick 6 = .ok (.bipush 60, 2) := by decide +kernel
theorem dX4_tick_8 : decode cX4_tick 8 = .ok (.if_icmp .le 5, 3) := by decide +kernel
theorem dX4_tick_11 : decode cX4_tick 11 = .ok (.iconst (-1), 1) := by decide +kernel
theorem dX4_tick_12 : decode cX4_tick 12 = .ok (.ireturn, 1) := by decide +kernel
theorem dX4_tick_13 : decode cX4_tick 13 = .ok (.aload_n 0, 1) := by decide +kernel
theorem dX4_tick_14 : decode cX4_tick 14 = .ok (.getfield 10, 3) := by decide +kernel
theorem dX4_tick_17 : decode cX4_tick 17 = .ok (.iload_n 1, 1) := by decide +kernel
theorem dX4_tick_18 : decode cX4_tick 18 = .ok (.invokevirtual 193, 3) := by decide +kernel
theorem dX4_tick_21 : decode cX4_tick 21 = .ok (.ireturn, 1) := by decide +kernel
theorem dX4_send_0 : decode cX4_send 0 = .ok (.iload_n 1, 1) := by decide +kernel
theorem dX4_send_1 : decode cX4_send 1 = .ok (.invokestatic 183, 3) := by decide +kernel
theorem dX4_send_4 : decode cX4_send 4 = .ok (.ifCond .ne 5, 3) := by decide +kernel
theorem dX4_send_7 : decode cX4_send 7 = .ok (.iconst (-1), 1) := by decide +kernel
theorem dX4_send_8 : decode cX4_send 8 = .ok (.ireturn, 1) := by decide +kernel
theorem dX4_send_9 : decode cX4_send 9 = .ok (.aload_n 0, 1) := by decide +kernel
theorem dX4_send_10 : decode cX4_send 10 = .ok (.getfield 36, 3) := by decide +kernel
theorem dX4_send_13 : decode cX4_send 13 = .ok (.aload_n 0, 1) := by decide +kernel
theorem dX4_send_14 : decode cX4_send 14 = .ok (.getfield 10, 3) := by decide +kernel
theorem dX4_send_17 : decode cX4_send 17 = .ok (.invokevirtual 151, 3) := by decide +kernel
theorem dX4_send_20 : decode cX4_send 20 = .ok (.aload_n 0, 1) := by decide +kernel
theorem dX4_send_21 : decode cX4_send 21 = .ok (.aload_n 0, 1) := by decide +kernel
theorem dX4_send_22 : decode cX4_send 22 = .ok (.getfield 10, 3) := by decide +kernel
theorem dX4_send_25 : decode cX4_send 25 = .ok (.iload_n 1, 1) := by decide +kernel
theorem dX4_send_26 : decode cX4_send 26 = .ok (.invokevirtual 196, 3) := by decide +kernel
theorem dX4_send_29 : decode cX4_send 29 = .ok (.ireturn, 1) := by decide +kernel
theorem dX4_journal_0 : decode cX4_journal 0 = .ok (.iload_n 1, 1) := by decide +kernel
theorem dX4_journal_1 : decode cX4_journal 1 = .ok (.ifCond .lt 12, 3) := by decide +kernel
theorem dX4_journal_4 : decode cX4_journal 4 = .ok (.iload_n 2, 1) := by decide +kernel
theorem dX4_journal_5 : decode cX4_journal 5 = .ok (.ifCond .lt 8, 3) := by decide +kernel
theorem dX4_journal_8 : decode cX4_journal 8 = .ok (.iload_n 2, 1) := by decide +kernel
theorem dX4_journal_9 : decode cX4_journal 9 = .ok (.iconst 2, 1) := by decide +kernel
theorem dX4_journal_10 : decode cX4_journal 10 = .ok (.if_icmp .le 5, 3) := by decide +kernel
theorem dX4_journal_13 : decode cX4_journal 13 = .ok (.iconst (-1), 1) := by decide +kernel
theorem dX4_journal_14 : decode cX4_journal 14 = .ok (.ireturn, 1) := by decide +kernel
theorem dX4_journal_15 : decode cX4_journal 15 = .ok (.iload_n 1, 1) := by decide +kernel
theorem dX4_journal_16 : decode cX4_journal 16 = .ok (.aload_n 0, 1) := by decide +kernel
theorem dX4_journal_17 : decode cX4_journal 17 = .ok (.getfield 10, 3) := by decide +kernel
theorem dX4_journal_20 : decode cX4_journal 20 = .ok (.getfield 93, 3) := by decide +kernel
theorem dX4_journal_23 : decode cX4_journal 23 = .ok (.if_icmp .lt 6, 3) := by decide +kernel
theorem dX4_journal_26 : decode cX4_journal 26 = .ok (.bipush (-4), 2) := by decide +kernel
theorem dX4_journal_28 : decode cX4_journal 28 = .ok (.ireturn, 1) := by decide +kernel
theorem dX4_journal_29 : decode cX4_journal 29 = .ok (.iload_n 2, 1) := by decide +kernel
theorem dX4_journal_30 : decode cX4_journal 30 = .ok (.lookupswitch 46 #[(0, 26), (1, 36)], 26) := by decide +kernel
theorem dX4_journal_56 : decode cX4_journal 56 = .ok (.aload_n 0, 1) := by decide +kernel
theorem dX4_journal_57 : decode cX4_journal 57 = .ok (.getfield 10, 3) := by decide +kernel
theorem dX4_journal_60 : decode cX4_journal 60 = .ok (.getfield 199, 3) := by decide +kernel
theorem dX4_journal_63 : decode cX4_journal 63 = .ok (.iload_n 1, 1) := by decide +kernel
theorem dX4_journal_64 : decode cX4_journal 64 = .ok (.iaload, 1) := by decide +kernel
theorem dX4_journal_65 : decode cX4_journal 65 = .ok (.ireturn, 1) := by decide +kernel
theorem dX4_journal_66 : decode cX4_journal 66 = .ok (.aload_n 0, 1) := by decide +kernel
theorem dX4_journal_67 : decode cX4_journal 67 = .ok (.getfield 10, 3) := by decide +kernel
theorem dX4_journal_70 : decode cX4_journal 70 = .ok (.getfield 202, 3) := by decide +kernel
theorem dX4_journal_73 : decode cX4_journal 73 = .ok (.iload_n 1, 1) := by decide +kernel
theorem dX4_journal_74 : decode cX4_journal 74 = .ok (.iaload, 1) := by decide +kernel
theorem dX4_journal_75 : decode cX4_journal 75 = .ok (.ireturn, 1) := by decide +kernel
theorem dX4_journal_76 : decode cX4_journal 76 = .ok (.aload_n 0, 1) := by decide +kernel
theorem dX4_journal_77 : decode cX4_journal 77 = .ok (.getfield 10, 3) := by decide +kernel
theorem dX4_journal_80 : decode cX4_journal 80 = .ok (.getfield 205, 3) := by decide +kernel
theorem dX4_journal_83 : decode cX4_journal 83 = .ok (.iload_n 1, 1) := by decide +kernel
theorem dX4_journal_84 : decode cX4_journal 84 = .ok (.iaload, 1) := by decide +kernel
theorem dX4_journal_85 : decode cX4_journal 85 = .ok (.ireturn, 1) := by decide +kernel
theorem dX4_add_0 : decode cX4_add 0 = .ok (.aload_n 0, 1) := by decide +kernel
theorem dX4_add_1 : decode cX4_add 1 = .ok (.getfield 10, 3) := by decide +kernel
theorem dX4_add_4 : decode cX4_add 4 = .ok (.iload_n 1, 1) := by decide +kernel
theorem dX4_add_5 : decode cX4_add 5 = .ok (.invokevirtual 107, 3) := by decide +kernel
theorem dX4_add_8 : decode cX4_add 8 = .ok (.ifCond .eq 30, 3) := by decide +kernel
theorem dX4_add_11 : decode cX4_add 11 = .ok (.aload_n 0, 1) := by decide +kernel
theorem dX4_add_12 : decode cX4_add 12 = .ok (.getfield 10, 3) := by decide +kernel
theorem dX4_add_15 : decode cX4_add 15 = .ok (.iload_n 2, 1) := by decide +kernel
theorem dX4_add_16 : decode cX4_add 16 = .ok (.invokevirtual 107, 3) := by decide +kernel
theorem dX4_add_19 : decode cX4_add 19 = .ok (.ifCond .eq 19, 3) := by decide +kernel
theorem dX4_add_22 : decode cX4_add 22 = .ok (.iload_n 1, 1) := by decide +kernel
theorem dX4_add_23 : decode cX4_add 23 = .ok (.iload_n 2, 1) := by decide +kernel
theorem dX4_add_24 : decode cX4_add 24 = .ok (.if_icmp .eq 14, 3) := by decide +kernel
theorem dX4_add_27 : decode cX4_add 27 = .ok (.iload_n 3, 1) := by decide +kernel
theorem dX4_add_28 : decode cX4_add 28 = .ok (.iconst 1, 1) := by decide +kernel
theorem dX4_add_29 : decode cX4_add 29 = .ok (.if_icmp .lt 9, 3) := by decide +kernel
theorem dX4_add_32 : decode cX4_add 32 = .ok (.iload_n 3, 1) := by decide +kernel
theorem dX4_add_33 : decode cX4_add 33 = .ok (.bipush 20, 2) := by decide +kernel
theorem dX4_add_35 : decode cX4_add 35 = .ok (.if_icmp .le 5, 3) := by decide +kernel
theorem dX4_add_38 : decode cX4_add 38 = .ok (.iconst (-1), 1) := by decide +kernel
theorem dX4_add_39 : decode cX4_add 39 = .ok (.ireturn, 1) := by decide +kernel
theorem dX4_add_40 : decode cX4_add 40 = .ok (.aload_n 0, 1) := by decide +kernel
theorem dX4_add_41 : decode cX4_add 41 = .ok (.getfield 10, 3) := by decide +kernel
theorem dX4_add_44 : decode cX4_add 44 = .ok (.getfield 83, 3) := by decide +kernel
theorem dX4_add_47 : decode cX4_add 47 = .ok (.iconst 4, 1) := by decide +kernel
theorem dX4_add_48 : decode cX4_add 48 = .ok (.if_icmp .lt 6, 3) := by decide +kernel
theorem dX4_add_51 : decode cX4_add 51 = .ok (.bipush (-3), 2) := by decide +kernel
theorem dX4_add_53 : decode cX4_add 53 = .ok (.ireturn, 1) := by decide +kernel
theorem dX4_add_54 : decode cX4_add 54 = .ok (.aload_n 0, 1) := by decide +kernel
theorem dX4_add_55 : decode cX4_add 55 = .ok (.getfield 10, 3) := by decide +kernel
theorem dX4_add_58 : decode cX4_add 58 = .ok (.iload_n 1, 1) := by decide +kernel
theorem dX4_add_59 : decode cX4_add 59 = .ok (.iload_n 2, 1) := by decide +kernel
theorem dX4_add_60 : decode cX4_add 60 = .ok (.iload_n 3, 1) := by decide +kernel
theorem dX4_add_61 : decode cX4_add 61 = .ok (.invokevirtual 208, 3) := by decide +kernel
theorem dX4_add_64 : decode cX4_add 64 = .ok (.aload_n 0, 1) := by decide +kernel
theorem dX4_add_65 : decode cX4_add 65 = .ok (.getfield 36, 3) := by decide +kernel
theorem dX4_add_68 : decode cX4_add 68 = .ok (.invokevirtual 70, 3) := by decide +kernel
theorem dX4_add_71 : decode cX4_add 71 = .ok (.aload_n 0, 1) := by decide +kernel
theorem dX4_add_72 : decode cX4_add 72 = .ok (.getfield 36, 3) := by decide +kernel
theorem dX4_add_75 : decode cX4_add 75 = .ok (.aload_n 0, 1) := by decide +kernel
theorem dX4_add_76 : decode cX4_add 76 = .ok (.getfield 10, 3) := by decide +kernel
theorem dX4_add_79 : decode cX4_add 79 = .ok (.invokevirtual 170, 3) := by decide +kernel
theorem dX4_add_82 : decode cX4_add 82 = .ok (.aload_n 0, 1) := by decide +kernel
theorem dX4_add_83 : decode cX4_add 83 = .ok (.getfield 36, 3) := by decide +kernel
theorem dX4_add_86 : decode cX4_add 86 = .ok (.aload_n 0, 1) := by decide +kernel
theorem dX4_add_87 : decode cX4_add 87 = .ok (.getfield 10, 3) := by decide +kernel
theorem dX4_add_90 : decode cX4_add 90 = .ok (.invokevirtual 212, 3) := by decide +kernel
theorem dX4_add_93 : decode cX4_add 93 = .ok (.ifCond .eq 32, 3) := by decide +kernel
theorem dX4_add_96 : decode cX4_add 96 = .ok (.aload_n 0, 1) := by decide +kernel
theorem dX4_add_97 : decode cX4_add 97 = .ok (.getfield 36, 3) := by decide +kernel
theorem dX4_add_100 : decode cX4_add 100 = .ok (.aload_n 0, 1) := by decide +kernel
theorem dX4_add_101 : decode cX4_add 101 = .ok (.getfield 10, 3) := by decide +kernel
theorem dX4_add_104 : decode cX4_add 104 = .ok (.invokevirtual 151, 3) := by decide +kernel
theorem dX4_add_107 : decode cX4_add 107 = .ok (.aload_n 0, 1) := by decide +kernel
theorem dX4_add_108 : decode cX4_add 108 = .ok (.getfield 36, 3) := by decide +kernel
theorem dX4_add_111 : decode cX4_add 111 = .ok (.invokevirtual 216, 3) := by decide +kernel
theorem dX4_add_114 : decode cX4_add 114 = .ok (.ifCond .eq 11, 3) := by decide +kernel
theorem dX4_add_117 : decode cX4_add 117 = .ok (.aload_n 0, 1) := by decide +kernel
theorem dX4_add_118 : decode cX4_add 118 = .ok (.getfield 10, 3) := by decide +kernel
theorem dX4_add_121 : decode cX4_add 121 = .ok (.getfield 83, 3) := by decide +kernel
theorem dX4_add_124 : decode cX4_add 124 = .ok (.ireturn, 1) := by decide +kernel
theorem dX4_add_125 : decode cX4_add 125 = .ok (.aload_n 0, 1) := by decide +kernel
theorem dX4_add_126 : decode cX4_add 126 = .ok (.getfield 10, 3) := by decide +kernel
theorem dX4_add_129 : decode cX4_add 129 = .ok (.dup, 1) := by decide +kernel
theorem dX4_add_130 : decode cX4_add 130 = .ok (.getfield 83, 3) := by decide +kernel
theorem dX4_add_133 : decode cX4_add 133 = .ok (.iconst 1, 1) := by decide +kernel
theorem dX4_add_134 : decode cX4_add 134 = .ok (.isub, 1) := by decide +kernel
theorem dX4_add_135 : decode cX4_add 135 = .ok (.putfield 83, 3) := by decide +kernel
theorem dX4_add_138 : decode cX4_add 138 = .ok (.aload_n 0, 1) := by decide +kernel
theorem dX4_add_139 : decode cX4_add 139 = .ok (.getfield 36, 3) := by decide +kernel
theorem dX4_add_142 : decode cX4_add 142 = .ok (.invokevirtual 70, 3) := by decide +kernel
theorem dX4_add_145 : decode cX4_add 145 = .ok (.bipush (-2), 2) := by decide +kernel
theorem dX4_add_147 : decode cX4_add 147 = .ok (.ireturn, 1) := by decide +kernel
theorem dX4_drop_0 : decode cX4_drop 0 = .ok (.aload_n 0, 1) := by decide +kernel
theorem dX4_drop_1 : decode cX4_drop 1 = .ok (.getfield 10, 3) := by decide +kernel
theorem dX4_drop_4 : decode cX4_drop 4 = .ok (.iload_n 1, 1) := by decide +kernel
theorem dX4_drop_5 : decode cX4_drop 5 = .ok (.invokevirtual 124, 3) := by decide +kernel
theorem dX4_drop_8 : decode cX4_drop 8 = .ok (.ifCond .ne 5, 3) := by decide +kernel
theorem dX4_drop_11 : decode cX4_drop 11 = .ok (.iconst (-1), 1) := by decide +kernel
theorem dX4_drop_12 : decode cX4_drop 12 = .ok (.ireturn, 1) := by decide +kernel
theorem dX4_drop_13 : decode cX4_drop 13 = .ok (.aload_n 0, 1) := by decide +kernel
theorem dX4_drop_14 : decode cX4_drop 14 = .ok (.getfield 10, 3) := by decide +kernel
theorem dX4_drop_17 : decode cX4_drop 17 = .ok (.getfield 142, 3) := by decide +kernel
theorem dX4_drop_20 : decode cX4_drop 20 = .ok (.iload_n 1, 1) := by decide +kernel
theorem dX4_drop_21 : decode cX4_drop 21 = .ok (.iaload, 1) := by decide +kernel
theorem dX4_drop_22 : decode cX4_drop 22 = .ok (.iconst 1, 1) := by decide +kernel
theorem dX4_drop_23 : decode cX4_drop 23 = .ok (.if_icmp .ne 6, 3) := by decide +kernel
theorem dX4_drop_26 : decode cX4_drop 26 = .ok (.bipush (-2), 2) := by decide +kernel
theorem dX4_drop_28 : decode cX4_drop 28 = .ok (.ireturn, 1) := by decide +kernel
theorem dX4_drop_29 : decode cX4_drop 29 = .ok (.aload_n 0, 1) := by decide +kernel
theorem dX4_drop_30 : decode cX4_drop 30 = .ok (.getfield 10, 3) := by decide +kernel
theorem dX4_drop_33 : decode cX4_drop 33 = .ok (.iload_n 1, 1) := by decide +kernel
theorem dX4_drop_34 : decode cX4_drop 34 = .ok (.invokevirtual 219, 3) := by decide +kernel
theorem dX4_drop_37 : decode cX4_drop 37 = .ok (.aload_n 0, 1) := by decide +kernel
theorem dX4_drop_38 : decode cX4_drop 38 = .ok (.getfield 36, 3) := by decide +kernel
theorem dX4_drop_41 : decode cX4_drop 41 = .ok (.invokevirtual 70, 3) := by decide +kernel
theorem dX4_drop_44 : decode cX4_drop 44 = .ok (.aload_n 0, 1) := by decide +kernel
theorem dX4_drop_45 : decode cX4_drop 45 = .ok (.getfield 10, 3) := by decide +kernel
theorem dX4_drop_48 : decode cX4_drop 48 = .ok (.getfield 83, 3) := by decide +kernel
theorem dX4_drop_51 : decode cX4_drop 51 = .ok (.ireturn, 1) := by decide +kernel
theorem dX4_draw_0 : decode cX4_draw 0 = .ok (.iload_n 2, 1) := by decide +kernel
theorem dX4_draw_1 : decode cX4_draw 1 = .ok (.iconst 1, 1) := by decide +kernel
theorem dX4_draw_2 : decode cX4_draw 2 = .ok (.if_icmp .lt 9, 3) := by decide +kernel
theorem dX4_draw_5 : decode cX4_draw 5 = .ok (.iload_n 2, 1) := by decide +kernel
theorem dX4_draw_6 : decode cX4_draw 6 = .ok (.bipush 8, 2) := by decide +kernel
theorem dX4_draw_8 : decode cX4_draw 8 = .ok (.if_icmp .le 5, 3) := by decide +kernel
theorem dX4_draw_11 : decode cX4_draw 11 = .ok (.iconst (-1), 1) := by decide +kernel
theorem dX4_draw_12 : decode cX4_draw 12 = .ok (.ireturn, 1) := by decide +kernel
theorem dX4_draw_13 : decode cX4_draw 13 = .ok (.aload_n 0, 1) := by decide +kernel
theorem dX4_draw_14 : decode cX4_draw 14 = .ok (.getfield 10, 3) := by decide +kernel
theorem dX4_draw_17 : decode cX4_draw 17 = .ok (.getfield 80, 3) := by decide +kernel
theorem dX4_draw_20 : decode cX4_draw 20 = .ok (.iconst 1, 1) := by decide +kernel
theorem dX4_draw_21 : decode cX4_draw 21 = .ok (.if_icmp .ge 6, 3) := by decide +kernel
theorem dX4_draw_24 : decode cX4_draw 24 = .ok (.bipush (-2), 2) := by decide +kernel
theorem dX4_draw_26 : decode cX4_draw 26 = .ok (.ireturn, 1) := by decide +kernel
theorem dX4_draw_27 : decode cX4_draw 27 = .ok (.iconst 0, 1) := by decide +kernel
theorem dX4_draw_28 : decode cX4_draw 28 = .ok (.istore_n 3, 1) := by decide +kernel
theorem dX4_draw_29 : decode cX4_draw 29 = .ok (.iload_n 1, 1) := by decide +kernel
theorem dX4_draw_30 : decode cX4_draw 30 = .ok (.istore 4, 2) := by decide +kernel
theorem dX4_draw_32 : decode cX4_draw 32 = .ok (.iconst 0, 1) := by decide +kernel
theorem dX4_draw_33 : decode cX4_draw 33 = .ok (.istore 5, 2) := by decide +kernel
theorem dX4_draw_35 : decode cX4_draw 35 = .ok (.iload 5, 2) := by decide +kernel
theorem dX4_draw_37 : decode cX4_draw 37 = .ok (.iload_n 2, 1) := by decide +kernel
theorem dX4_draw_38 : decode cX4_draw 38 = .ok (.if_icmp .ge 74, 3) := by decide +kernel
theorem dX4_draw_41 : decode cX4_draw 41 = .ok (.iload 4, 2) := by decide +kernel
theorem dX4_draw_43 : decode cX4_draw 43 = .ok (.ldc 222, 2) := by decide +kernel
theorem dX4_draw_45 : decode cX4_draw 45 = .ok (.imul, 1) := by decide +kernel
theorem dX4_draw_46 : decode cX4_draw 46 = .ok (.sipush 12345, 3) := by decide +kernel
theorem dX4_draw_49 : decode cX4_draw 49 = .ok (.iadd, 1) := by decide +kernel
theorem dX4_draw_50 : decode cX4_draw 50 = .ok (.istore 4, 2) := by decide +kernel
theorem dX4_draw_52 : decode cX4_draw 52 = .ok (.iload 4, 2) := by decide +kernel
theorem dX4_draw_54 : decode cX4_draw 54 = .ok (.bipush 16, 2) := by decide +kernel
theorem dX4_draw_56 : decode cX4_draw 56 = .ok (.iushr, 1) := by decide +kernel
theorem dX4_draw_57 : decode cX4_draw 57 = .ok (.sipush 32767, 3) := by decide +kernel
theorem dX4_draw_60 : decode cX4_draw 60 = .ok (.iand, 1) := by decide +kernel
theorem dX4_draw_61 : decode cX4_draw 61 = .ok (.istore 6, 2) := by decide +kernel
theorem dX4_draw_63 : decode cX4_draw 63 = .ok (.aload_n 0, 1) := by decide +kernel
theorem dX4_draw_64 : decode cX4_draw 64 = .ok (.iload 6, 2) := by decide +kernel
theorem dX4_draw_66 : decode cX4_draw 66 = .ok (.aload_n 0, 1) := by decide +kernel
theorem dX4_draw_67 : decode cX4_draw 67 = .ok (.getfield 10, 3) := by decide +kernel
theorem dX4_draw_70 : decode cX4_draw 70 = .ok (.getfield 80, 3) := by decide +kernel
theorem dX4_draw_73 : decode cX4_draw 73 = .ok (.irem, 1) := by decide +kernel
theorem dX4_draw_74 : decode cX4_draw 74 = .ok (.iload 6, 2) := by decide +kernel
theorem dX4_draw_76 : decode cX4_draw 76 = .ok (.bipush 8, 2) := by decide +kernel
theorem dX4_draw_78 : decode cX4_draw 78 = .ok (.idiv, 1) := by decide +kernel
theorem dX4_draw_79 : decode cX4_draw 79 = .ok (.aload_n 0, 1) := by decide +kernel
theorem dX4_draw_80 : decode cX4_draw 80 = .ok (.getfield 10, 3) := by decide +kernel
theorem dX4_draw_83 : decode cX4_draw 83 = .ok (.getfield 80, 3) := by decide +kernel
theorem dX4_draw_86 : decode cX4_draw 86 = .ok (.irem, 1) := by decide +kernel
theorem dX4_draw_87 : decode cX4_draw 87 = .ok (.iload 6, 2) := by decide +kernel
theorem dX4_draw_89 : decode cX4_draw 89 = .ok (.bipush 64, 2) := by decide +kernel
theorem dX4_draw_91 : decode cX4_draw 91 = .ok (.idiv, 1) := by decide +kernel
theorem dX4_draw_92 : decode cX4_draw 92 = .ok (.bipush 6, 2) := by decide +kernel
theorem dX4_draw_94 : decode cX4_draw 94 = .ok (.irem, 1) := by decide +kernel
theorem dX4_draw_95 : decode cX4_draw 95 = .ok (.iconst 1, 1) := by decide +kernel
theorem dX4_draw_96 : decode cX4_draw 96 = .ok (.iadd, 1) := by decide +kernel
theorem dX4_draw_97 : decode cX4_draw 97 = .ok (.invokevirtual 223, 3) := by decide +kernel
theorem dX4_draw_100 : decode cX4_draw 100 = .ok (.ifCond .le 6, 3) := by decide +kernel
theorem dX4_draw_103 : decode cX4_draw 103 = .ok (.iinc 3 1, 3) := by decide +kernel
theorem dX4_draw_106 : decode cX4_draw 106 = .ok (.iinc 5 1, 3) := by decide +kernel
theorem dX4_draw_109 : decode cX4_draw 109 = .ok (.goto (-74), 3) := by decide +kernel
theorem dX4_draw_112 : decode cX4_draw 112 = .ok (.iload_n 3, 1) := by decide +kernel
theorem dX4_draw_113 : decode cX4_draw 113 = .ok (.ireturn, 1) := by decide +kernel
theorem dX4_keep_0 : decode cX4_keep 0 = .ok (.iload_n 1, 1) := by decide +kernel
theorem dX4_keep_1 : decode cX4_keep 1 = .ok (.invokestatic 227, 3) := by decide +kernel
theorem dX4_keep_4 : decode cX4_keep 4 = .ok (.ifCond .ne 5, 3) := by decide +kernel
theorem dX4_keep_7 : decode cX4_keep 7 = .ok (.iconst (-1), 1) := by decide +kernel
theorem dX4_keep_8 : decode cX4_keep 8 = .ok (.ireturn, 1) := by decide +kernel
theorem dX4_keep_9 : decode cX4_keep 9 = .ok (.aload_n 0, 1) := by decide +kernel
theorem dX4_keep_10 : decode cX4_keep 10 = .ok (.getfield 23, 3) := by decide +kernel
theorem dX4_keep_13 : decode cX4_keep 13 = .ok (.iload_n 1, 1) := by decide +kernel
theorem dX4_keep_14 : decode cX4_keep 14 = .ok (.baload, 1) := by decide +kernel
theorem dX4_keep_15 : decode cX4_keep 15 = .ok (.ifCond .eq 7, 3) := by decide +kernel
theorem dX4_keep_18 : decode cX4_keep 18 = .ok (.iconst 1, 1) := by decide +kernel
theorem dX4_keep_19 : decode cX4_keep 19 = .ok (.goto 4, 3) := by decide +kernel
theorem dX4_keep_22 : decode cX4_keep 22 = .ok (.iconst 0, 1) := by decide +kernel
theorem dX4_keep_23 : decode cX4_keep 23 = .ok (.istore_n 2, 1) := by decide +kernel
theorem dX4_keep_24 : decode cX4_keep 24 = .ok (.aload_n 0, 1) := by decide +kernel
theorem dX4_keep_25 : decode cX4_keep 25 = .ok (.getfield 19, 3) := by decide +kernel
theorem dX4_keep_28 : decode cX4_keep 28 = .ok (.iload_n 1, 1) := by decide +kernel
theorem dX4_keep_29 : decode cX4_keep 29 = .ok (.aaload, 1) := by decide +kernel
theorem dX4_keep_30 : decode cX4_keep 30 = .ok (.aload_n 0, 1) := by decide +kernel
theorem dX4_keep_31 : decode cX4_keep 31 = .ok (.getfield 10, 3) := by decide +kernel
theorem dX4_keep_34 : decode cX4_keep 34 = .ok (.invokevirtual 76, 3) := by decide +kernel
theorem dX4_keep_37 : decode cX4_keep 37 = .ok (.aload_n 0, 1) := by decide +kernel
theorem dX4_keep_38 : decode cX4_keep 38 = .ok (.getfield 23, 3) := by decide +kernel
theorem dX4_keep_41 : decode cX4_keep 41 = .ok (.iload_n 1, 1) := by decide +kernel
theorem dX4_keep_42 : decode cX4_keep 42 = .ok (.iconst 1, 1) := by decide +kernel
theorem dX4_keep_43 : decode cX4_keep 43 = .ok (.bastore, 1) := by decide +kernel
theorem dX4_keep_44 : decode cX4_keep 44 = .ok (.iload_n 2, 1) := by decide +kernel
theorem dX4_keep_45 : decode cX4_keep 45 = .ok (.ireturn, 1) := by decide +kernel
theorem dX4_back_0 : decode cX4_back 0 = .ok (.iload_n 1, 1) := by decide +kernel
theorem dX4_back_1 : decode cX4_back 1 = .ok (.invokestatic 227, 3) := by decide +kernel
theorem dX4_back_4 : decode cX4_back 4 = .ok (.ifCond .ne 5, 3) := by decide +kernel
theorem dX4_back_7 : decode cX4_back 7 = .ok (.iconst (-1), 1) := by decide +kernel
theorem dX4_back_8 : decode cX4_back 8 = .ok (.ireturn, 1) := by decide +kernel
theorem dX4_back_9 : decode cX4_back 9 = .ok (.aload_n 0, 1) := by decide +kernel
theorem dX4_back_10 : decode cX4_back 10 = .ok (.getfield 23, 3) := by decide +kernel
theorem dX4_back_13 : decode cX4_back 13 = .ok (.iload_n 1, 1) := by decide +kernel
theorem dX4_back_14 : decode cX4_back 14 = .ok (.baload, 1) := by decide +kernel
theorem dX4_back_15 : decode cX4_back 15 = .ok (.ifCond .ne 6, 3) := by decide +kernel
theorem dX4_back_18 : decode cX4_back 18 = .ok (.bipush (-2), 2) := by decide +kernel
theorem dX4_back_20 : decode cX4_back 20 = .ok (.ireturn, 1) := by decide +kernel
theorem dX4_back_21 : decode cX4_back 21 = .ok (.aload_n 0, 1) := by decide +kernel
theorem dX4_back_22 : decode cX4_back 22 = .ok (.getfield 10, 3) := by decide +kernel
theorem dX4_back_25 : decode cX4_back 25 = .ok (.aload_n 0, 1) := by decide +kernel
theorem dX4_back_26 : decode cX4_back 26 = .ok (.getfield 19, 3) := by decide +kernel
theorem dX4_back_29 : decode cX4_back 29 = .ok (.iload_n 1, 1) := by decide +kernel
theorem dX4_back_30 : decode cX4_back 30 = .ok (.aaload, 1) := by decide +kernel
theorem dX4_back_31 : decode cX4_back 31 = .ok (.invokevirtual 76, 3) := by decide +kernel
theorem dX4_back_34 : decode cX4_back 34 = .ok (.aload_n 0, 1) := by decide +kernel
theorem dX4_back_35 : decode cX4_back 35 = .ok (.getfield 36, 3) := by decide +kernel
theorem dX4_back_38 : decode cX4_back 38 = .ok (.invokevirtual 70, 3) := by decide +kernel
theorem dX4_back_41 : decode cX4_back 41 = .ok (.aload_n 0, 1) := by decide +kernel
theorem dX4_back_42 : decode cX4_back 42 = .ok (.getfield 10, 3) := by decide +kernel
theorem dX4_back_45 : decode cX4_back 45 = .ok (.getfield 83, 3) := by decide +kernel
theorem dX4_back_48 : decode cX4_back 48 = .ok (.ireturn, 1) := by decide +kernel
theorem dX4_sheet_0 : decode cX4_sheet 0 = .ok (.iload_n 1, 1) := by decide +kernel
theorem dX4_sheet_1 : decode cX4_sheet 1 = .ok (.invokestatic 230, 3) := by decide +kernel
theorem dX4_sheet_4 : decode cX4_sheet 4 = .ok (.ifCond .eq 16, 3) := by decide +kernel
theorem dX4_sheet_7 : decode cX4_sheet 7 = .ok (.iload_n 2, 1) := by decide +kernel
theorem dX4_sheet_8 : decode cX4_sheet 8 = .ok (.invokestatic 233, 3) := by decide +kernel
theorem dX4_sheet_11 : decode cX4_sheet 11 = .ok (.ifCond .eq 9, 3) := by decide +kernel
theorem dX4_sheet_14 : decode cX4_sheet 14 = .ok (.iload_n 3, 1) := by decide +kernel
theorem dX4_sheet_15 : decode cX4_sheet 15 = .ok (.bipush 40, 2) := by decide +kernel
theorem dX4_sheet_17 : decode cX4_sheet 17 = .ok (.if_icmp .le 5, 3) := by decide +kernel
theorem dX4_sheet_20 : decode cX4_sheet 20 = .ok (.iconst (-1), 1) := by decide +kernel
theorem dX4_sheet_21 : decode cX4_sheet 21 = .ok (.ireturn, 1) := by decide +kernel
theorem dX4_sheet_22 : decode cX4_sheet 22 = .ok (.iload_n 3, 1) := by decide +kernel
theorem dX4_sheet_23 : decode cX4_sheet 23 = .ok (.ifCond .ge 6, 3) := by decide +kernel
theorem dX4_sheet_26 : decode cX4_sheet 26 = .ok (.bipush (-14), 2) := by decide +kernel
theorem dX4_sheet_28 : decode cX4_sheet 28 = .ok (.ireturn, 1) := by decide +kernel
theorem dX4_sheet_29 : decode cX4_sheet 29 = .ok (.aload_n 0, 1) := by decide +kernel
theorem dX4_sheet_30 : decode cX4_sheet 30 = .ok (.getfield 29, 3) := by decide +kernel
theorem dX4_sheet_33 : decode cX4_sheet 33 = .ok (.iload_n 1, 1) := by decide +kernel
theorem dX4_sheet_34 : decode cX4_sheet 34 = .ok (.aaload, 1) := by decide +kernel
theorem dX4_sheet_35 : decode cX4_sheet 35 = .ok (.iload_n 2, 1) := by decide +kernel
theorem dX4_sheet_36 : decode cX4_sheet 36 = .ok (.iload_n 3, 1) := by decide +kernel
theorem dX4_sheet_37 : decode cX4_sheet 37 = .ok (.invokevirtual 236, 3) := by decide +kernel
theorem dX4_sheet_40 : decode cX4_sheet 40 = .ok (.iconst 1, 1) := by decide +kernel
theorem dX4_sheet_41 : decode cX4_sheet 41 = .ok (.ireturn, 1) := by decide +kernel
theorem dX4_lay_0 : decode cX4_lay 0 = .ok (.iload_n 1, 1) := by decide +kernel
theorem dX4_lay_1 : decode cX4_lay 1 = .ok (.invokestatic 230, 3) := by decide +kernel
theorem dX4_lay_4 : decode cX4_lay 4 = .ok (.ifCond .ne 5, 3) := by decide +kernel
theorem dX4_lay_7 : decode cX4_lay 7 = .ok (.iconst (-1), 1) := by decide +kernel
theorem dX4_lay_8 : decode cX4_lay 8 = .ok (.ireturn, 1) := by decide +kernel
theorem dX4_lay_9 : decode cX4_lay 9 = .ok (.aload_n 0, 1) := by decide +kernel
theorem dX4_lay_10 : decode cX4_lay 10 = .ok (.getfield 29, 3) := by decide +kernel
theorem dX4_lay_13 : decode cX4_lay 13 = .ok (.iload_n 1, 1) := by decide +kernel
theorem dX4_lay_14 : decode cX4_lay 14 = .ok (.aaload, 1) := by decide +kernel
theorem dX4_lay_15 : decode cX4_lay 15 = .ok (.iload_n 2, 1) := by decide +kernel
theorem dX4_lay_16 : decode cX4_lay 16 = .ok (.invokevirtual 240, 3) := by decide +kernel
theorem dX4_lay_19 : decode cX4_lay 19 = .ok (.istore 4, 2) := by decide +kernel
theorem dX4_lay_21 : decode cX4_lay 21 = .ok (.iload 4, 2) := by decide +kernel
theorem dX4_lay_23 : decode cX4_lay 23 = .ok (.ifCond .eq 9, 3) := by decide +kernel
theorem dX4_lay_26 : decode cX4_lay 26 = .ok (.bipush (-10), 2) := by decide +kernel
theorem dX4_lay_28 : decode cX4_lay 28 = .ok (.iload 4, 2) := by decide +kernel
theorem dX4_lay_30 : decode cX4_lay 30 = .ok (.isub, 1) := by decide +kernel
theorem dX4_lay_31 : decode cX4_lay 31 = .ok (.ireturn, 1) := by decide +kernel
theorem dX4_lay_32 : decode cX4_lay 32 = .ok (.aload_n 0, 1) := by decide +kernel
theorem dX4_lay_33 : decode cX4_lay 33 = .ok (.getfield 29, 3) := by decide +kernel
theorem dX4_lay_36 : decode cX4_lay 36 = .ok (.iload_n 1, 1) := by decide +kernel
theorem dX4_lay_37 : decode cX4_lay 37 = .ok (.aaload, 1) := by decide +kernel
theorem dX4_lay_38 : decode cX4_lay 38 = .ok (.iload_n 2, 1) := by decide +kernel
theorem dX4_lay_39 : decode cX4_lay 39 = .ok (.iload_n 3, 1) := by decide +kernel
theorem dX4_lay_40 : decode cX4_lay 40 = .ok (.invokevirtual 243, 3) := by decide +kernel
theorem dX4_lay_43 : decode cX4_lay 43 = .ok (.iconst 1, 1) := by decide +kernel
theorem dX4_lay_44 : decode cX4_lay 44 = .ok (.ireturn, 1) := by decide +kernel
theorem dX4_read_0 : decode cX4_read 0 = .ok (.iload_n 1, 1) := by decide +kernel
theorem dX4_read_1 : decode cX4_read 1 = .ok (.invokestatic 230, 3) := by decide +kernel
theorem dX4_read_4 : decode cX4_read 4 = .ok (.ifCond .eq 22, 3) := by decide +kernel
theorem dX4_read_7 : decode cX4_read 7 = .ok (.iload_n 2, 1) := by decide +kernel
theorem dX4_read_8 : decode cX4_read 8 = .ok (.invokestatic 233, 3) := by decide +kernel
theorem dX4_read_11 : decode cX4_read 11 = .ok (.ifCond .eq 15, 3) := by decide +kernel
theorem dX4_read_14 : decode cX4_read 14 = .ok (.iload 4, 2) := by decide +kernel
theorem dX4_read_16 : decode cX4_read 16 = .ok (.ifCond .lt 10, 3) := by decide +kernel
theorem dX4_read_19 : decode cX4_read 19 = .ok (.iload 4, 2) := by decide +kernel
theorem dX4_read_21 : decode cX4_read 21 = .ok (.bipush 10, 2) := by decide +kernel
theorem dX4_read_23 : decode cX4_read 23 = .ok (.if_icmp .le 5, 3) := by decide +kernel
theorem dX4_read_26 : decode cX4_read 26 = .ok (.iconst (-1), 1) := by decide +kernel
theorem dX4_read_27 : decode cX4_read 27 = .ok (.ireturn, 1) := by decide +kernel
theorem dX4_read_28 : decode cX4_read 28 = .ok (.aload_n 0, 1) := by decide +kernel
theorem dX4_read_29 : decode cX4_read 29 = .ok (.getfield 10, 3) := by decide +kernel
theorem dX4_read_32 : decode cX4_read 32 = .ok (.getfield 83, 3) := by decide +kernel
theorem dX4_read_35 : decode cX4_read 35 = .ok (.istore 5, 2) := by decide +kernel
theorem dX4_read_37 : decode cX4_read 37 = .ok (.aload_n 0, 1) := by decide +kernel
theorem dX4_read_38 : decode cX4_read 38 = .ok (.getfield 29, 3) := by decide +kernel
theorem dX4_read_41 : decode cX4_read 41 = .ok (.iload_n 1, 1) := by decide +kernel
theorem dX4_read_42 : decode cX4_read 42 = .ok (.aaload, 1) := by decide +kernel
theorem dX4_read_43 : decode cX4_read 43 = .ok (.getfield 246, 3) := by decide +kernel
theorem dX4_read_46 : decode cX4_read 46 = .ok (.astore 6, 2) := by decide +kernel
theorem dX4_read_48 : decode cX4_read 48 = .ok (.iconst 0, 1) := by decide +kernel
theorem dX4_read_49 : decode cX4_read 49 = .ok (.istore 7, 2) := by decide +kernel
theorem dX4_read_51 : decode cX4_read 51 = .ok (.iload 7, 2) := by decide +kernel
theorem dX4_read_53 : decode cX4_read 53 = .ok (.iload 4, 2) := by decide +kernel
theorem dX4_read_55 : decode cX4_read 55 = .ok (.if_icmp .ge 93, 3) := by decide +kernel
theorem dX4_read_58 : decode cX4_read 58 = .ok (.iload_n 3, 1) := by decide +kernel
theorem dX4_read_59 : decode cX4_read 59 = .ok (.iconst 3, 1) := by decide +kernel
theorem dX4_read_60 : decode cX4_read 60 = .ok (.iload 7, 2) := by decide +kernel
theorem dX4_read_62 : decode cX4_read 62 = .ok (.imul, 1) := by decide +kernel
theorem dX4_read_63 : decode cX4_read 63 = .ok (.iadd, 1) := by decide +kernel
theorem dX4_read_64 : decode cX4_read 64 = .ok (.istore 8, 2) := by decide +kernel
theorem dX4_read_66 : decode cX4_read 66 = .ok (.aload_n 0, 1) := by decide +kernel
theorem dX4_read_67 : decode cX4_read 67 = .ok (.getfield 29, 3) := by decide +kernel
theorem dX4_read_70 : decode cX4_read 70 = .ok (.iload_n 1, 1) := by decide +kernel
theorem dX4_read_71 : decode cX4_read 71 = .ok (.aaload, 1) := by decide +kernel
theorem dX4_read_72 : decode cX4_read 72 = .ok (.iload_n 2, 1) := by decide +kernel
theorem dX4_read_73 : decode cX4_read 73 = .ok (.iload 8, 2) := by decide +kernel
theorem dX4_read_75 : decode cX4_read 75 = .ok (.invokevirtual 249, 3) := by decide +kernel
theorem dX4_read_78 : decode cX4_read 78 = .ok (.istore 9, 2) := by decide +kernel
theorem dX4_read_80 : decode cX4_read 80 = .ok (.iload 9, 2) := by decide +kernel
theorem dX4_read_82 : decode cX4_read 82 = .ok (.ifCond .eq 12, 3) := by decide +kernel
theorem dX4_read_85 : decode cX4_read 85 = .ok (.aload_n 0, 1) := by decide +kernel
theorem dX4_read_86 : decode cX4_read 86 = .ok (.iload 9, 2) := by decide +kernel
theorem dX4_read_88 : decode cX4_read 88 = .ok (.putfield 252, 3) := by decide +kernel
theorem dX4_read_91 : decode cX4_read 91 = .ok (.iload 7, 2) := by decide +kernel
theorem dX4_read_93 : decode cX4_read 93 = .ok (.ireturn, 1) := by decide +kernel
theorem dX4_read_94 : decode cX4_read 94 = .ok (.aload_n 0, 1) := by decide +kernel
theorem dX4_read_95 : decode cX4_read 95 = .ok (.aload 6, 2) := by decide +kernel
theorem dX4_read_97 : decode cX4_read 97 = .ok (.iload 8, 2) := by decide +kernel
theorem dX4_read_99 : decode cX4_read 99 = .ok (.iaload, 1) := by decide +kernel
theorem dX4_read_100 : decode cX4_read 100 = .ok (.aload 6, 2) := by decide +kernel
theorem dX4_read_102 : decode cX4_read 102 = .ok (.iload 8, 2) := by decide +kernel
theorem dX4_read_104 : decode cX4_read 104 = .ok (.iconst 1, 1) := by decide +kernel
theorem dX4_read_105 : decode cX4_read 105 = .ok (.iadd, 1) := by decide +kernel
theorem dX4_read_106 : decode cX4_read 106 = .ok (.iaload, 1) := by decide +kernel
theorem dX4_read_107 : decode cX4_read 107 = .ok (.aload 6, 2) := by decide +kernel
theorem dX4_read_109 : decode cX4_read 109 = .ok (.iload 8, 2) := by decide +kernel
theorem dX4_read_111 : decode cX4_read 111 = .ok (.iconst 2, 1) := by decide +kernel
theorem dX4_read_112 : decode cX4_read 112 = .ok (.iadd, 1) := by decide +kernel
theorem dX4_read_113 : decode cX4_read 113 = .ok (.iaload, 1) := by decide +kernel
theorem dX4_read_114 : decode cX4_read 114 = .ok (.invokevirtual 223, 3) := by decide +kernel
theorem dX4_read_117 : decode cX4_read 117 = .ok (.ifCond .ge 25, 3) := by decide +kernel
theorem dX4_read_120 : decode cX4_read 120 = .ok (.aload_n 0, 1) := by decide +kernel
theorem dX4_read_121 : decode cX4_read 121 = .ok (.getfield 10, 3) := by decide +kernel
theorem dX4_read_124 : decode cX4_read 124 = .ok (.iload 5, 2) := by decide +kernel
theorem dX4_read_126 : decode cX4_read 126 = .ok (.putfield 83, 3) := by decide +kernel
theorem dX4_read_129 : decode cX4_read 129 = .ok (.aload_n 0, 1) := by decide +kernel
theorem dX4_read_130 : decode cX4_read 130 = .ok (.getfield 36, 3) := by decide +kernel
theorem dX4_read_133 : decode cX4_read 133 = .ok (.invokevirtual 70, 3) := by decide +kernel
theorem dX4_read_136 : decode cX4_read 136 = .ok (.bipush (-20), 2) := by decide +kernel
theorem dX4_read_138 : decode cX4_read 138 = .ok (.iload 7, 2) := by decide +kernel
theorem dX4_read_140 : decode cX4_read 140 = .ok (.isub, 1) := by decide +kernel
theorem dX4_read_141 : decode cX4_read 141 = .ok (.ireturn, 1) := by decide +kernel
theorem dX4_read_142 : decode cX4_read 142 = .ok (.iinc 7 1, 3) := by decide +kernel
theorem dX4_read_145 : decode cX4_read 145 = .ok (.goto (-94), 3) := by decide +kernel
theorem dX4_read_148 : decode cX4_read 148 = .ok (.aload_n 0, 1) := by decide +kernel
theorem dX4_read_149 : decode cX4_read 149 = .ok (.iconst 0, 1) := by decide +kernel
theorem dX4_read_150 : decode cX4_read 150 = .ok (.putfield 252, 3) := by decide +kernel
theorem dX4_read_153 : decode cX4_read 153 = .ok (.iload 4, 2) := by decide +kernel
theorem dX4_read_155 : decode cX4_read 155 = .ok (.ireturn, 1) := by decide +kernel
theorem dX4_torn_0 : decode cX4_torn 0 = .ok (.aload_n 0, 1) := by decide +kernel
theorem dX4_torn_1 : decode cX4_torn 1 = .ok (.getfield 252, 3) := by decide +kernel
theorem dX4_torn_4 : decode cX4_torn 4 = .ok (.ireturn, 1) := by decide +kernel
theorem dX4_count_0 : decode cX4_count 0 = .ok (.iload_n 1, 1) := by decide +kernel
theorem dX4_count_1 : decode cX4_count 1 = .ok (.tableswitch 160 0 5 #[39, 69, 87, 95, 122, 140], 39) := by decide +kernel
theorem dX4_count_40 : decode cX4_count 40 = .ok (.aload_n 0, 1) := by decide +kernel
theorem dX4_count_41 : decode cX4_count 41 = .ok (.getfield 23, 3) := by decide +kernel
theorem dX4_count_44 : decode cX4_count 44 = .ok (.iconst 0, 1) := by decide +kernel
theorem dX4_count_45 : decode cX4_count 45 = .ok (.baload, 1) := by decide +kernel
theorem dX4_count_46 : decode cX4_count 46 = .ok (.ifCond .eq 7, 3) := by decide +kernel
theorem dX4_count_49 : decode cX4_count 49 = .ok (.iconst 1, 1) := by decide +kernel
theorem dX4_count_50 : decode cX4_count 50 = .ok (.goto 4, 3) := by decide +kernel
theorem dX4_count_53 : decode cX4_count 53 = .ok (.iconst 0, 1) := by decide +kernel
theorem dX4_count_54 : decode cX4_count 54 = .ok (.aload_n 0, 1) := by decide +kernel
theorem dX4_count_55 : decode cX4_count 55 = .ok (.getfield 23, 3) := by decide +kernel
theorem dX4_count_58 : decode cX4_count 58 = .ok (.iconst 1, 1) := by decide +kernel
theorem dX4_count_59 : decode cX4_count 59 = .ok (.baload, 1) := by decide +kernel
theorem dX4_count_60 : decode cX4_count 60 = .ok (.ifCond .eq 7, 3) := by decide +kernel
theorem dX4_count_63 : decode cX4_count 63 = .ok (.iconst 1, 1) := by decide +kernel
theorem dX4_count_64 : decode cX4_count 64 = .ok (.goto 4, 3) := by decide +kernel
theorem dX4_count_67 : decode cX4_count 67 = .ok (.iconst 0, 1) := by decide +kernel
theorem dX4_count_68 : decode cX4_count 68 = .ok (.iadd, 1) := by decide +kernel
theorem dX4_count_69 : decode cX4_count 69 = .ok (.ireturn, 1) := by decide +kernel
theorem dX4_count_70 : decode cX4_count 70 = .ok (.aload_n 0, 1) := by decide +kernel
theorem dX4_count_71 : decode cX4_count 71 = .ok (.getfield 10, 3) := by decide +kernel
theorem dX4_count_74 : decode cX4_count 74 = .ok (.getfield 111, 3) := by decide +kernel
theorem dX4_count_77 : decode cX4_count 77 = .ok (.aload_n 0, 1) := by decide +kernel
theorem dX4_count_78 : decode cX4_count 78 = .ok (.getfield 10, 3) := by decide +kernel
theorem dX4_count_81 : decode cX4_count 81 = .ok (.getfield 80, 3) := by decide +kernel
theorem dX4_count_84 : decode cX4_count 84 = .ok (.invokestatic 255, 3) := by decide +kernel
theorem dX4_count_87 : decode cX4_count 87 = .ok (.ireturn, 1) := by decide +kernel
theorem dX4_count_88 : decode cX4_count 88 = .ok (.aload_n 0, 1) := by decide +kernel
theorem dX4_count_89 : decode cX4_count 89 = .ok (.getfield 43, 3) := by decide +kernel
theorem dX4_count_92 : decode cX4_count 92 = .ok (.getfield 48, 3) := by decide +kernel
theorem dX4_count_95 : decode cX4_count 95 = .ok (.ireturn, 1) := by decide +kernel
theorem dX4_count_96 : decode cX4_count 96 = .ok (.aload_n 0, 1) := by decide +kernel
theorem dX4_count_97 : decode cX4_count 97 = .ok (.getfield 29, 3) := by decide +kernel
theorem dX4_count_100 : decode cX4_count 100 = .ok (.iconst 0, 1) := by decide +kernel
theorem dX4_count_101 : decode cX4_count 101 = .ok (.aaload, 1) := by decide +kernel
theorem dX4_count_102 : decode cX4_count 102 = .ok (.getfield 259, 3) := by decide +kernel
theorem dX4_count_105 : decode cX4_count 105 = .ok (.ifCond .ge 8, 3) := by decide +kernel
theorem dX4_count_108 : decode cX4_count 108 = .ok (.bipush (-4), 2) := by decide +kernel
theorem dX4_count_110 : decode cX4_count 110 = .ok (.goto 12, 3) := by decide +kernel
theorem dX4_count_113 : decode cX4_count 113 = .ok (.aload_n 0, 1) := by decide +kernel
theorem dX4_count_114 : decode cX4_count 114 = .ok (.getfield 29, 3) := by decide +kernel
theorem dX4_count_117 : decode cX4_count 117 = .ok (.iconst 0, 1) := by decide +kernel
theorem dX4_count_118 : decode cX4_count 118 = .ok (.aaload, 1) := by decide +kernel
theorem dX4_count_119 : decode cX4_count 119 = .ok (.getfield 259, 3) := by decide +kernel
theorem dX4_count_122 : decode cX4_count 122 = .ok (.ireturn, 1) := by decide +kernel
theorem dX4_count_123 : decode cX4_count 123 = .ok (.aload_n 0, 1) := by decide +kernel
theorem dX4_count_124 : decode cX4_count 124 = .ok (.getfield 10, 3) := by decide +kernel
theorem dX4_count_127 : decode cX4_count 127 = .ok (.getfield 133, 3) := by decide +kernel
theorem dX4_count_130 : decode cX4_count 130 = .ok (.aload_n 0, 1) := by decide +kernel
theorem dX4_count_131 : decode cX4_count 131 = .ok (.getfield 10, 3) := by decide +kernel
theorem dX4_count_134 : decode cX4_count 134 = .ok (.getfield 83, 3) := by decide +kernel
theorem dX4_count_137 : decode cX4_count 137 = .ok (.invokestatic 255, 3) := by decide +kernel
theorem dX4_count_140 : decode cX4_count 140 = .ok (.ireturn, 1) := by decide +kernel
theorem dX4_count_141 : decode cX4_count 141 = .ok (.aload_n 0, 1) := by decide +kernel
theorem dX4_count_142 : decode cX4_count 142 = .ok (.getfield 10, 3) := by decide +kernel
theorem dX4_count_145 : decode cX4_count 145 = .ok (.getfield 121, 3) := by decide +kernel
theorem dX4_count_148 : decode cX4_count 148 = .ok (.aload_n 0, 1) := by decide +kernel
theorem dX4_count_149 : decode cX4_count 149 = .ok (.getfield 10, 3) := by decide +kernel
theorem dX4_count_152 : decode cX4_count 152 = .ok (.getfield 80, 3) := by decide +kernel
theorem dX4_count_155 : decode cX4_count 155 = .ok (.iconst 1, 1) := by decide +kernel
theorem dX4_count_156 : decode cX4_count 156 = .ok (.isub, 1) := by decide +kernel
theorem dX4_count_157 : decode cX4_count 157 = .ok (.invokestatic 255, 3) := by decide +kernel
theorem dX4_count_160 : decode cX4_count 160 = .ok (.ireturn, 1) := by decide +kernel
theorem dX4_count_161 : decode cX4_count 161 = .ok (.iconst (-1), 1) := by decide +kernel
theorem dX4_count_162 : decode cX4_count 162 = .ok (.ireturn, 1) := by decide +kernel
theorem dX4_isRule_0 : decode cX4_isRule 0 = .ok (.iload_n 0, 1) := by decide +kernel
theorem dX4_isRule_1 : decode cX4_isRule 1 = .ok (.ifCond .lt 12, 3) := by decide +kernel
theorem dX4_isRule_4 : decode cX4_isRule 4 = .ok (.iload_n 0, 1) := by decide +kernel
theorem dX4_isRule_5 : decode cX4_isRule 5 = .ok (.iconst 3, 1) := by decide +kernel
theorem dX4_isRule_6 : decode cX4_isRule 6 = .ok (.if_icmp .ge 7, 3) := by decide +kernel
theorem dX4_isRule_9 : decode cX4_isRule 9 = .ok (.iconst 1, 1) := by decide +kernel
theorem dX4_isRule_10 : decode cX4_isRule 10 = .ok (.goto 4, 3) := by decide +kernel
theorem dX4_isRule_13 : decode cX4_isRule 13 = .ok (.iconst 0, 1) := by decide +kernel
theorem dX4_isRule_14 : decode cX4_isRule 14 = .ok (.ireturn, 1) := by decide +kernel
theorem dX4_isImage_0 : decode cX4_isImage 0 = .ok (.iload_n 0, 1) := by decide +kernel
theorem dX4_isImage_1 : decode cX4_isImage 1 = .ok (.ifCond .lt 12, 3) := by decide +kernel
theorem dX4_isImage_4 : decode cX4_isImage 4 = .ok (.iload_n 0, 1) := by decide +kernel
theorem dX4_isImage_5 : decode cX4_isImage 5 = .ok (.iconst 2, 1) := by decide +kernel
theorem dX4_isImage_6 : decode cX4_isImage 6 = .ok (.if_icmp .ge 7, 3) := by decide +kernel
theorem dX4_isImage_9 : decode cX4_isImage 9 = .ok (.iconst 1, 1) := by decide +kernel
theorem dX4_isImage_10 : decode cX4_isImage 10 = .ok (.goto 4, 3) := by decide +kernel
theorem dX4_isImage_13 : decode cX4_isImage 13 = .ok (.iconst 0, 1) := by decide +kernel
theorem dX4_isImage_14 : decode cX4_isImage 14 = .ok (.ireturn, 1) := by decide +kernel
theorem dX4_isSheet_0 : decode cX4_isSheet 0 = .ok (.iload_n 0, 1) := by decide +kernel
theorem dX4_isSheet_1 : decode cX4_isSheet 1 = .ok (.ifCond .lt 12, 3) := by decide +kernel
theorem dX4_isSheet_4 : decode cX4_isSheet 4 = .ok (.iload_n 0, 1) := by decide +kernel
theorem dX4_isSheet_5 : decode cX4_isSheet 5 = .ok (.iconst 4, 1) := by decide +kernel
theorem dX4_isSheet_6 : decode cX4_isSheet 6 = .ok (.if_icmp .ge 7, 3) := by decide +kernel
theorem dX4_isSheet_9 : decode cX4_isSheet 9 = .ok (.iconst 1, 1) := by decide +kernel
theorem dX4_isSheet_10 : decode cX4_isSheet 10 = .ok (.goto 4, 3) := by decide +kernel
theorem dX4_isSheet_13 : decode cX4_isSheet 13 = .ok (.iconst 0, 1) := by decide +kernel
theorem dX4_isSheet_14 : decode cX4_isSheet 14 = .ok (.ireturn, 1) := by decide +kernel
theorem dX4_isLane_0 : decode cX4_isLane 0 = .ok (.iload_n 0, 1) := by decide +kernel
theorem dX4_isLane_1 : decode cX4_isLane 1 = .ok (.ifCond .lt 12, 3) := by decide +kernel
theorem dX4_isLane_4 : decode cX4_isLane 4 = .ok (.iload_n 0, 1) := by decide +kernel
theorem dX4_isLane_5 : decode cX4_isLane 5 = .ok (.iconst 3, 1) := by decide +kernel
theorem dX4_isLane_6 : decode cX4_isLane 6 = .ok (.if_icmp .ge 7, 3) := by decide +kernel
theorem dX4_isLane_9 : decode cX4_isLane 9 = .ok (.iconst 1, 1) := by decide +kernel
theorem dX4_isLane_10 : decode cX4_isLane 10 = .ok (.goto 4, 3) := by decide +kernel
theorem dX4_isLane_13 : decode cX4_isLane 13 = .ok (.iconst 0, 1) := by decide +kernel
theorem dX4_isLane_14 : decode cX4_isLane 14 = .ok (.ireturn, 1) := by decide +kernel
theorem dX4_sum_0 : decode cX4_sum 0 = .ok (.iconst 0, 1) := by decide +kernel
theorem dX4_sum_1 : decode cX4_sum 1 = .ok (.istore_n 2, 1) := by decide +kernel
theorem dX4_sum_2 : decode cX4_sum 2 = .ok (.iconst 0, 1) := by decide +kernel
theorem dX4_sum_3 : decode cX4_sum 3 = .ok (.istore_n 3, 1) := by decide +kernel
theorem dX4_sum_4 : decode cX4_sum 4 = .ok (.iload_n 3, 1) := by decide +kernel
theorem dX4_sum_5 : decode cX4_sum 5 = .ok (.iload_n 1, 1) := by decide +kernel
theorem dX4_sum_6 : decode cX4_sum 6 = .ok (.if_icmp .ge 21, 3) := by decide +kernel
theorem dX4_sum_9 : decode cX4_sum 9 = .ok (.iload_n 3, 1) := by decide +kernel
theorem dX4_sum_10 : decode cX4_sum 10 = .ok (.aload_n 0, 1) := by decide +kernel
theorem dX4_sum_11 : decode cX4_sum 11 = .ok (.arraylength, 1) := by decide +kernel
theorem dX4_sum_12 : decode cX4_sum 12 = .ok (.if_icmp .ge 15, 3) := by decide +kernel
theorem dX4_sum_15 : decode cX4_sum 15 = .ok (.iload_n 2, 1) := by decide +kernel
theorem dX4_sum_16 : decode cX4_sum 16 = .ok (.aload_n 0, 1) := by decide +kernel
theorem dX4_sum_17 : decode cX4_sum 17 = .ok (.iload_n 3, 1) := by decide +kernel
theorem dX4_sum_18 : decode cX4_sum 18 = .ok (.iaload, 1) := by decide +kernel
theorem dX4_sum_19 : decode cX4_sum 19 = .ok (.iadd, 1) := by decide +kernel
theorem dX4_sum_20 : decode cX4_sum 20 = .ok (.istore_n 2, 1) := by decide +kernel
theorem dX4_sum_21 : decode cX4_sum 21 = .ok (.iinc 3 1, 3) := by decide +kernel
theorem dX4_sum_24 : decode cX4_sum 24 = .ok (.goto (-20), 3) := by decide +kernel
theorem dX4_sum_27 : decode cX4_sum 27 = .ok (.iload_n 2, 1) := by decide +kernel
theorem dX4_sum_28 : decode cX4_sum 28 = .ok (.ireturn, 1) := by decide +kernel
theorem dX4_faultBehindAll_0 : decode cX4_faultBehindAll 0 = .ok (.aload_n 1, 1) := by decide +kernel
theorem dX4_faultBehindAll_1 : decode cX4_faultBehindAll 1 = .ok (.invokevirtual 260, 3) := by decide +kernel
theorem dX4_faultBehindAll_4 : decode cX4_faultBehindAll 4 = .ok (.ifCond .ne 6, 3) := by decide +kernel
theorem dX4_faultBehindAll_7 : decode cX4_faultBehindAll 7 = .ok (.bipush 6, 2) := by decide +kernel
theorem dX4_faultBehindAll_9 : decode cX4_faultBehindAll 9 = .ok (.ireturn, 1) := by decide +kernel
theorem dX4_faultBehindAll_10 : decode cX4_faultBehindAll 10 = .ok (.aload_n 0, 1) := by decide +kernel
theorem dX4_faultBehindAll_11 : decode cX4_faultBehindAll 11 = .ok (.getfield 36, 3) := by decide +kernel
theorem dX4_faultBehindAll_14 : decode cX4_faultBehindAll 14 = .ok (.invokevirtual 70, 3) := by decide +kernel
theorem dX4_faultBehindAll_17 : decode cX4_faultBehindAll 17 = .ok (.aload_n 0, 1) := by decide +kernel
theorem dX4_faultBehindAll_18 : decode cX4_faultBehindAll 18 = .ok (.getfield 36, 3) := by decide +kernel
theorem dX4_faultBehindAll_21 : decode cX4_faultBehindAll 21 = .ok (.aload_n 1, 1) := by decide +kernel
theorem dX4_faultBehindAll_22 : decode cX4_faultBehindAll 22 = .ok (.invokevirtual 151, 3) := by decide +kernel
theorem dX4_faultBehindAll_25 : decode cX4_faultBehindAll 25 = .ok (.aload_n 0, 1) := by decide +kernel
theorem dX4_faultBehindAll_26 : decode cX4_faultBehindAll 26 = .ok (.getfield 36, 3) := by decide +kernel
theorem dX4_faultBehindAll_29 : decode cX4_faultBehindAll 29 = .ok (.aload_n 1, 1) := by decide +kernel
theorem dX4_faultBehindAll_30 : decode cX4_faultBehindAll 30 = .ok (.invokevirtual 212, 3) := by decide +kernel
theorem dX4_faultBehindAll_33 : decode cX4_faultBehindAll 33 = .ok (.ifCond .ne 6, 3) := by decide +kernel
theorem dX4_faultBehindAll_36 : decode cX4_faultBehindAll 36 = .ok (.bipush 7, 2) := by decide +kernel
theorem dX4_faultBehindAll_38 : decode cX4_faultBehindAll 38 = .ok (.ireturn, 1) := by decide +kernel
theorem dX4_faultBehindAll_39 : decode cX4_faultBehindAll 39 = .ok (.aload_n 0, 1) := by decide +kernel
theorem dX4_faultBehindAll_40 : decode cX4_faultBehindAll 40 = .ok (.getfield 36, 3) := by decide +kernel
theorem dX4_faultBehindAll_43 : decode cX4_faultBehindAll 43 = .ok (.invokevirtual 216, 3) := by decide +kernel
theorem dX4_faultBehindAll_46 : decode cX4_faultBehindAll 46 = .ok (.ifCond .eq 7, 3) := by decide +kernel
theorem dX4_faultBehindAll_49 : decode cX4_faultBehindAll 49 = .ok (.iconst 0, 1) := by decide +kernel
theorem dX4_faultBehindAll_50 : decode cX4_faultBehindAll 50 = .ok (.goto 5, 3) := by decide +kernel
theorem dX4_faultBehindAll_53 : decode cX4_faultBehindAll 53 = .ok (.bipush 8, 2) := by decide +kernel
theorem dX4_faultBehindAll_55 : decode cX4_faultBehindAll 55 = .ok (.ireturn, 1) := by decide +kernel
theorem dX4_isPlain_0 : decode cX4_isPlain 0 = .ok (.aload_n 0, 1) := by decide +kernel
theorem dX4_isPlain_1 : decode cX4_isPlain 1 = .ok (.getfield 36, 3) := by decide +kernel
theorem dX4_isPlain_4 : decode cX4_isPlain 4 = .ok (.aload_n 0, 1) := by decide +kernel
theorem dX4_isPlain_5 : decode cX4_isPlain 5 = .ok (.getfield 10, 3) := by decide +kernel
theorem dX4_isPlain_8 : decode cX4_isPlain 8 = .ok (.invokevirtual 170, 3) := by decide +kernel
theorem dX4_isPlain_11 : decode cX4_isPlain 11 = .ok (.iconst 0, 1) := by decide +kernel
theorem dX4_isPlain_12 : decode cX4_isPlain 12 = .ok (.istore_n 1, 1) := by decide +kernel
theorem dX4_isPlain_13 : decode cX4_isPlain 13 = .ok (.iconst 0, 1) := by decide +kernel
theorem dX4_isPlain_14 : decode cX4_isPlain 14 = .ok (.istore_n 2, 1) := by decide +kernel
theorem dX4_isPlain_15 : decode cX4_isPlain 15 = .ok (.iload_n 2, 1) := by decide +kernel
theorem dX4_isPlain_16 : decode cX4_isPlain 16 = .ok (.aload_n 0, 1) := by decide +kernel
theorem dX4_isPlain_17 : decode cX4_isPlain 17 = .ok (.getfield 10, 3) := by decide +kernel
theorem dX4_isPlain_20 : decode cX4_isPlain 20 = .ok (.getfield 83, 3) := by decide +kernel
theorem dX4_isPlain_23 : decode cX4_isPlain 23 = .ok (.if_icmp .ge 29, 3) := by decide +kernel
theorem dX4_isPlain_26 : decode cX4_isPlain 26 = .ok (.iload_n 1, 1) := by decide +kernel
theorem dX4_isPlain_27 : decode cX4_isPlain 27 = .ok (.aload_n 0, 1) := by decide +kernel
theorem dX4_isPlain_28 : decode cX4_isPlain 28 = .ok (.getfield 10, 3) := by decide +kernel
theorem dX4_isPlain_31 : decode cX4_isPlain 31 = .ok (.getfield 135, 3) := by decide +kernel
theorem dX4_isPlain_34 : decode cX4_isPlain 34 = .ok (.iload_n 2, 1) := by decide +kernel
theorem dX4_isPlain_35 : decode cX4_isPlain 35 = .ok (.iaload, 1) := by decide +kernel
theorem dX4_isPlain_36 : decode cX4_isPlain 36 = .ok (.ifCond .le 7, 3) := by decide +kernel
theorem dX4_isPlain_39 : decode cX4_isPlain 39 = .ok (.iconst 1, 1) := by decide +kernel
theorem dX4_isPlain_40 : decode cX4_isPlain 40 = .ok (.goto 4, 3) := by decide +kernel
theorem dX4_isPlain_43 : decode cX4_isPlain 43 = .ok (.iconst 0, 1) := by decide +kernel
theorem dX4_isPlain_44 : decode cX4_isPlain 44 = .ok (.iadd, 1) := by decide +kernel
theorem dX4_isPlain_45 : decode cX4_isPlain 45 = .ok (.istore_n 1, 1) := by decide +kernel
theorem dX4_isPlain_46 : decode cX4_isPlain 46 = .ok (.iinc 2 1, 3) := by decide +kernel
theorem dX4_isPlain_49 : decode cX4_isPlain 49 = .ok (.goto (-34), 3) := by decide +kernel
theorem dX4_isPlain_52 : decode cX4_isPlain 52 = .ok (.aload_n 0, 1) := by decide +kernel
theorem dX4_isPlain_53 : decode cX4_isPlain 53 = .ok (.getfield 36, 3) := by decide +kernel
theorem dX4_isPlain_56 : decode cX4_isPlain 56 = .ok (.aload_n 0, 1) := by decide +kernel
theorem dX4_isPlain_57 : decode cX4_isPlain 57 = .ok (.getfield 10, 3) := by decide +kernel
theorem dX4_isPlain_60 : decode cX4_isPlain 60 = .ok (.invokevirtual 173, 3) := by decide +kernel
theorem dX4_isPlain_63 : decode cX4_isPlain 63 = .ok (.iload_n 1, 1) := by decide +kernel
theorem dX4_isPlain_64 : decode cX4_isPlain 64 = .ok (.if_icmp .ne 7, 3) := by decide +kernel
theorem dX4_isPlain_67 : decode cX4_isPlain 67 = .ok (.iconst 1, 1) := by decide +kernel
theorem dX4_isPlain_68 : decode cX4_isPlain 68 = .ok (.goto 4, 3) := by decide +kernel
theorem dX4_isPlain_71 : decode cX4_isPlain 71 = .ok (.iconst 0, 1) := by decide +kernel
theorem dX4_isPlain_72 : decode cX4_isPlain 72 = .ok (.ireturn, 1) := by decide +kernel
theorem dX4_against_0 : decode cX4_against 0 = .ok (.aload_n 1, 1) := by decide +kernel
theorem dX4_against_1 : decode cX4_against 1 = .ok (.getfield 142, 3) := by decide +kernel
theorem dX4_against_4 : decode cX4_against 4 = .ok (.iload_n 2, 1) := by decide +kernel
theorem dX4_against_5 : decode cX4_against 5 = .ok (.iaload, 1) := by decide +kernel
theorem dX4_against_6 : decode cX4_against 6 = .ok (.ifCond .eq 19, 3) := by decide +kernel
theorem dX4_against_9 : decode cX4_against 9 = .ok (.aload_n 1, 1) := by decide +kernel
theorem dX4_against_10 : decode cX4_against 10 = .ok (.getfield 142, 3) := by decide +kernel
theorem dX4_against_13 : decode cX4_against 13 = .ok (.iload_n 2, 1) := by decide +kernel
theorem dX4_against_14 : decode cX4_against 14 = .ok (.iaload, 1) := by decide +kernel
theorem dX4_against_15 : decode cX4_against 15 = .ok (.iconst 2, 1) := by decide +kernel
theorem dX4_against_16 : decode cX4_against 16 = .ok (.if_icmp .ne 7, 3) := by decide +kernel
theorem dX4_against_19 : decode cX4_against 19 = .ok (.iconst 1, 1) := by decide +kernel
theorem dX4_against_20 : decode cX4_against 20 = .ok (.goto 4, 3) := by decide +kernel
theorem dX4_against_23 : decode cX4_against 23 = .ok (.iconst 2, 1) := by decide +kernel
theorem dX4_against_24 : decode cX4_against 24 = .ok (.ireturn, 1) := by decide +kernel
theorem dX4_against_25 : decode cX4_against 25 = .ok (.aload_n 1, 1) := by decide +kernel
theorem dX4_against_26 : decode cX4_against 26 = .ok (.aload_n 1, 1) := by decide +kernel
theorem dX4_against_27 : decode cX4_against 27 = .ok (.iload_n 2, 1) := by decide +kernel
theorem dX4_against_28 : decode cX4_against 28 = .ok (.aload_n 1, 1) := by decide +kernel
theorem dX4_against_29 : decode cX4_against 29 = .ok (.getfield 135, 3) := by decide +kernel
theorem dX4_against_32 : decode cX4_against 32 = .ok (.iload_n 2, 1) := by decide +kernel
theorem dX4_against_33 : decode cX4_against 33 = .ok (.iaload, 1) := by decide +kernel
theorem dX4_against_34 : decode cX4_against 34 = .ok (.invokevirtual 158, 3) := by decide +kernel
theorem dX4_against_37 : decode cX4_against 37 = .ok (.invokevirtual 161, 3) := by decide +kernel
theorem dX4_against_40 : decode cX4_against 40 = .ok (.ifCond .lt 5, 3) := by decide +kernel
theorem dX4_against_43 : decode cX4_against 43 = .ok (.iconst 3, 1) := by decide +kernel
theorem dX4_against_44 : decode cX4_against 44 = .ok (.ireturn, 1) := by decide +kernel
theorem dX4_against_45 : decode cX4_against 45 = .ok (.aload_n 0, 1) := by decide +kernel
theorem dX4_against_46 : decode cX4_against 46 = .ok (.getfield 36, 3) := by decide +kernel
theorem dX4_against_49 : decode cX4_against 49 = .ok (.aload_n 1, 1) := by decide +kernel
theorem dX4_against_50 : decode cX4_against 50 = .ok (.iload_n 2, 1) := by decide +kernel
theorem dX4_against_51 : decode cX4_against 51 = .ok (.invokevirtual 263, 3) := by decide +kernel
theorem dX4_against_54 : decode cX4_against 54 = .ok (.ifCond .ne 5, 3) := by decide +kernel
theorem dX4_against_57 : decode cX4_against 57 = .ok (.iconst 4, 1) := by decide +kernel
theorem dX4_against_58 : decode cX4_against 58 = .ok (.ireturn, 1) := by decide +kernel
theorem dX4_against_59 : decode cX4_against 59 = .ok (.aload_n 0, 1) := by decide +kernel
theorem dX4_against_60 : decode cX4_against 60 = .ok (.getfield 36, 3) := by decide +kernel
theorem dX4_against_63 : decode cX4_against 63 = .ok (.iload_n 2, 1) := by decide +kernel
theorem dX4_against_64 : decode cX4_against 64 = .ok (.invokevirtual 267, 3) := by decide +kernel
theorem dX4_against_67 : decode cX4_against 67 = .ok (.ifCond .eq 7, 3) := by decide +kernel
theorem dX4_against_70 : decode cX4_against 70 = .ok (.iconst 0, 1) := by decide +kernel
theorem dX4_against_71 : decode cX4_against 71 = .ok (.goto 4, 3) := by decide +kernel
theorem dX4_against_74 : decode cX4_against 74 = .ok (.iconst 5, 1) := by decide +kernel
theorem dX4_against_75 : decode cX4_against 75 = .ok (.ireturn, 1) := by decide +kernel
theorem dX4_letAllGo_0 : decode cX4_letAllGo 0 = .ok (.iconst 0, 1) := by decide +kernel
theorem dX4_letAllGo_1 : decode cX4_letAllGo 1 = .ok (.istore_n 3, 1) := by decide +kernel
theorem dX4_letAllGo_2 : decode cX4_letAllGo 2 = .ok (.iconst 0, 1) := by decide +kernel
theorem dX4_letAllGo_3 : decode cX4_letAllGo 3 = .ok (.istore 4, 2) := by decide +kernel
theorem dX4_letAllGo_5 : decode cX4_letAllGo 5 = .ok (.iload 4, 2) := by decide +kernel
theorem dX4_letAllGo_7 : decode cX4_letAllGo 7 = .ok (.aload_n 1, 1) := by decide +kernel
theorem dX4_letAllGo_8 : decode cX4_letAllGo 8 = .ok (.getfield 83, 3) := by decide +kernel
theorem dX4_letAllGo_11 : decode cX4_letAllGo 11 = .ok (.if_icmp .ge 41, 3) := by decide +kernel
theorem dX4_letAllGo_14 : decode cX4_letAllGo 14 = .ok (.aload_n 0, 1) := by decide +kernel
theorem dX4_letAllGo_15 : decode cX4_letAllGo 15 = .ok (.aload_n 1, 1) := by decide +kernel
theorem dX4_letAllGo_16 : decode cX4_letAllGo 16 = .ok (.iload_n 2, 1) := by decide +kernel
theorem dX4_letAllGo_17 : decode cX4_letAllGo 17 = .ok (.invokevirtual 270, 3) := by decide +kernel
theorem dX4_letAllGo_20 : decode cX4_letAllGo 20 = .ok (.istore 5, 2) := by decide +kernel
theorem dX4_letAllGo_22 : decode cX4_letAllGo 22 = .ok (.iload 5, 2) := by decide +kernel
theorem dX4_letAllGo_24 : decode cX4_letAllGo 24 = .ok (.ifCond .ge 5, 3) := by decide +kernel
theorem dX4_letAllGo_27 : decode cX4_letAllGo 27 = .ok (.iload_n 3, 1) := by decide +kernel
theorem dX4_letAllGo_28 : decode cX4_letAllGo 28 = .ok (.ireturn, 1) := by decide +kernel
theorem dX4_letAllGo_29 : decode cX4_letAllGo 29 = .ok (.aload_n 1, 1) := by decide +kernel
theorem dX4_letAllGo_30 : decode cX4_letAllGo 30 = .ok (.iload 5, 2) := by decide +kernel
theorem dX4_letAllGo_32 : decode cX4_letAllGo 32 = .ok (.invokevirtual 190, 3) := by decide +kernel
theorem dX4_letAllGo_35 : decode cX4_letAllGo 35 = .ok (.aload_n 0, 1) := by decide +kernel
theorem dX4_letAllGo_36 : decode cX4_letAllGo 36 = .ok (.getfield 36, 3) := by decide +kernel
theorem dX4_letAllGo_39 : decode cX4_letAllGo 39 = .ok (.aload_n 1, 1) := by decide +kernel
theorem dX4_letAllGo_40 : decode cX4_letAllGo 40 = .ok (.invokevirtual 273, 3) := by decide +kernel
theorem dX4_letAllGo_43 : decode cX4_letAllGo 43 = .ok (.iinc 3 1, 3) := by decide +kernel
theorem dX4_letAllGo_46 : decode cX4_letAllGo 46 = .ok (.iinc 4 1, 3) := by decide +kernel
theorem dX4_letAllGo_49 : decode cX4_letAllGo 49 = .ok (.goto (-44), 3) := by decide +kernel
theorem dX4_letAllGo_52 : decode cX4_letAllGo 52 = .ok (.iload_n 3, 1) := by decide +kernel
theorem dX4_letAllGo_53 : decode cX4_letAllGo 53 = .ok (.ireturn, 1) := by decide +kernel
theorem dX4_firstBy_0 : decode cX4_firstBy 0 = .ok (.bipush (-4), 2) := by decide +kernel
theorem dX4_firstBy_2 : decode cX4_firstBy 2 = .ok (.istore_n 3, 1) := by decide +kernel
theorem dX4_firstBy_3 : decode cX4_firstBy 3 = .ok (.iconst 0, 1) := by decide +kernel
theorem dX4_firstBy_4 : decode cX4_firstBy 4 = .ok (.istore 4, 2) := by decide +kernel
theorem dX4_firstBy_6 : decode cX4_firstBy 6 = .ok (.iload 4, 2) := by decide +kernel
theorem dX4_firstBy_8 : decode cX4_firstBy 8 = .ok (.aload_n 1, 1) := by decide +kernel
theorem dX4_firstBy_9 : decode cX4_firstBy 9 = .ok (.getfield 83, 3) := by decide +kernel
theorem dX4_firstBy_12 : decode cX4_firstBy 12 = .ok (.if_icmp .ge 37, 3) := by decide +kernel
theorem dX4_firstBy_15 : decode cX4_firstBy 15 = .ok (.aload_n 0, 1) := by decide +kernel
theorem dX4_firstBy_16 : decode cX4_firstBy 16 = .ok (.aload_n 1, 1) := by decide +kernel
theorem dX4_firstBy_17 : decode cX4_firstBy 17 = .ok (.iload 4, 2) := by decide +kernel
theorem dX4_firstBy_19 : decode cX4_firstBy 19 = .ok (.invokevirtual 154, 3) := by decide +kernel
theorem dX4_firstBy_22 : decode cX4_firstBy 22 = .ok (.ifCond .ne 21, 3) := by decide +kernel
theorem dX4_firstBy_25 : decode cX4_firstBy 25 = .ok (.iload_n 3, 1) := by decide +kernel
theorem dX4_firstBy_26 : decode cX4_firstBy 26 = .ok (.ifCond .lt 14, 3) := by decide +kernel
theorem dX4_firstBy_29 : decode cX4_firstBy 29 = .ok (.aload_n 1, 1) := by decide +kernel
theorem dX4_firstBy_30 : decode cX4_firstBy 30 = .ok (.iload_n 2, 1) := by decide +kernel
theorem dX4_firstBy_31 : decode cX4_firstBy 31 = .ok (.iload 4, 2) := by decide +kernel
theorem dX4_firstBy_33 : decode cX4_firstBy 33 = .ok (.iload_n 3, 1) := by decide +kernel
theorem dX4_firstBy_34 : decode cX4_firstBy 34 = .ok (.invokestatic 276, 3) := by decide +kernel
theorem dX4_firstBy_37 : decode cX4_firstBy 37 = .ok (.ifCond .eq 6, 3) := by decide +kernel
theorem dX4_firstBy_40 : decode cX4_firstBy 40 = .ok (.iload 4, 2) := by decide +kernel
theorem dX4_firstBy_42 : decode cX4_firstBy 42 = .ok (.istore_n 3, 1) := by decide +kernel
theorem dX4_firstBy_43 : decode cX4_firstBy 43 = .ok (.iinc 4 1, 3) := by decide +kernel
theorem dX4_firstBy_46 : decode cX4_firstBy 46 = .ok (.goto (-40), 3) := by decide +kernel
theorem dX4_firstBy_49 : decode cX4_firstBy 49 = .ok (.iload_n 3, 1) := by decide +kernel
theorem dX4_firstBy_50 : decode cX4_firstBy 50 = .ok (.ireturn, 1) := by decide +kernel
theorem dX4_isAhead_0 : decode cX4_isAhead 0 = .ok (.iload_n 1, 1) := by decide +kernel
theorem dX4_isAhead_1 : decode cX4_isAhead 1 = .ok (.ifCond .ne 14, 3) := by decide +kernel
theorem dX4_isAhead_4 : decode cX4_isAhead 4 = .ok (.iload_n 2, 1) := by decide +kernel
theorem dX4_isAhead_5 : decode cX4_isAhead 5 = .ok (.iload_n 3, 1) := by decide +kernel
theorem dX4_isAhead_6 : decode cX4_isAhead 6 = .ok (.if_icmp .ge 7, 3) := by decide +kernel
theorem dX4_isAhead_9 : decode cX4_isAhead 9 = .ok (.iconst 1, 1) := by decide +kernel
theorem dX4_isAhead_10 : decode cX4_isAhead 10 = .ok (.goto 4, 3) := by decide +kernel
theorem dX4_isAhead_13 : decode cX4_isAhead 13 = .ok (.iconst 0, 1) := by decide +kernel
theorem dX4_isAhead_14 : decode cX4_isAhead 14 = .ok (.ireturn, 1) := by decide +kernel
theorem dX4_isAhead_15 : decode cX4_isAhead 15 = .ok (.aload_n 0, 1) := by decide +kernel
theorem dX4_isAhead_16 : decode cX4_isAhead 16 = .ok (.iload_n 2, 1) := by decide +kernel
theorem dX4_isAhead_17 : decode cX4_isAhead 17 = .ok (.invokevirtual 148, 3) := by decide +kernel
theorem dX4_isAhead_20 : decode cX4_isAhead 20 = .ok (.istore 4, 2) := by decide +kernel
theorem dX4_isAhead_22 : decode cX4_isAhead 22 = .ok (.aload_n 0, 1) := by decide +kernel
theorem dX4_isAhead_23 : decode cX4_isAhead 23 = .ok (.iload_n 3, 1) := by decide +kernel
theorem dX4_isAhead_24 : decode cX4_isAhead 24 = .ok (.invokevirtual 148, 3) := by decide +kernel
theorem dX4_isAhead_27 : decode cX4_isAhead 27 = .ok (.istore 5, 2) := by decide +kernel
theorem dX4_isAhead_29 : decode cX4_isAhead 29 = .ok (.iload_n 1, 1) := by decide +kernel
theorem dX4_isAhead_30 : decode cX4_isAhead 30 = .ok (.iconst 1, 1) := by decide +kernel
theorem dX4_isAhead_31 : decode cX4_isAhead 31 = .ok (.if_icmp .ne 18, 3) := by decide +kernel
theorem dX4_isAhead_34 : decode cX4_isAhead 34 = .ok (.iload 4, 2) := by decide +kernel
theorem dX4_isAhead_36 : decode cX4_isAhead 36 = .ok (.iload 5, 2) := by decide +kernel
theorem dX4_isAhead_38 : decode cX4_isAhead 38 = .ok (.if_icmp .ge 7, 3) := by decide +kernel
theorem dX4_isAhead_41 : decode cX4_isAhead 41 = .ok (.iconst 1, 1) := by decide +kernel
theorem dX4_isAhead_42 : decode cX4_isAhead 42 = .ok (.goto 19, 3) := by decide +kernel
theorem dX4_isAhead_45 : decode cX4_isAhead 45 = .ok (.iconst 0, 1) := by decide +kernel
theorem dX4_isAhead_46 : decode cX4_isAhead 46 = .ok (.goto 15, 3) := by decide +kernel
theorem dX4_isAhead_49 : decode cX4_isAhead 49 = .ok (.iload 4, 2) := by decide +kernel
theorem dX4_isAhead_51 : decode cX4_isAhead 51 = .ok (.iload 5, 2) := by decide +kernel
theorem dX4_isAhead_53 : decode cX4_isAhead 53 = .ok (.if_icmp .le 7, 3) := by decide +kernel
theorem dX4_isAhead_56 : decode cX4_isAhead 56 = .ok (.iconst 1, 1) := by decide +kernel
theorem dX4_isAhead_57 : decode cX4_isAhead 57 = .ok (.goto 4, 3) := by decide +kernel
theorem dX4_isAhead_60 : decode cX4_isAhead 60 = .ok (.iconst 0, 1) := by decide +kernel
theorem dX4_isAhead_61 : decode cX4_isAhead 61 = .ok (.ireturn, 1) := by decide +kernel
theorem dX4_howManyFree_0 : decode cX4_howManyFree 0 = .ok (.aload_n 0, 1) := by decide +kernel
theorem dX4_howManyFree_1 : decode cX4_howManyFree 1 = .ok (.getfield 36, 3) := by decide +kernel
theorem dX4_howManyFree_4 : decode cX4_howManyFree 4 = .ok (.aload_n 0, 1) := by decide +kernel
theorem dX4_howManyFree_5 : decode cX4_howManyFree 5 = .ok (.getfield 10, 3) := by decide +kernel
theorem dX4_howManyFree_8 : decode cX4_howManyFree 8 = .ok (.invokevirtual 151, 3) := by decide +kernel
theorem dX4_howManyFree_11 : decode cX4_howManyFree 11 = .ok (.iconst 0, 1) := by decide +kernel
theorem dX4_howManyFree_12 : decode cX4_howManyFree 12 = .ok (.istore_n 1, 1) := by decide +kernel
theorem dX4_howManyFree_13 : decode cX4_howManyFree 13 = .ok (.iconst 0, 1) := by decide +kernel
theorem dX4_howManyFree_14 : decode cX4_howManyFree 14 = .ok (.istore_n 2, 1) := by decide +kernel
theorem dX4_howManyFree_15 : decode cX4_howManyFree 15 = .ok (.iload_n 2, 1) := by decide +kernel
theorem dX4_howManyFree_16 : decode cX4_howManyFree 16 = .ok (.aload_n 0, 1) := by decide +kernel
theorem dX4_howManyFree_17 : decode cX4_howManyFree 17 = .ok (.getfield 10, 3) := by decide +kernel
theorem dX4_howManyFree_20 : decode cX4_howManyFree 20 = .ok (.getfield 83, 3) := by decide +kernel
theorem dX4_howManyFree_23 : decode cX4_howManyFree 23 = .ok (.if_icmp .ge 29, 3) := by decide +kernel
theorem dX4_howManyFree_26 : decode cX4_howManyFree 26 = .ok (.iload_n 1, 1) := by decide +kernel
theorem dX4_howManyFree_27 : decode cX4_howManyFree 27 = .ok (.aload_n 0, 1) := by decide +kernel
theorem dX4_howManyFree_28 : decode cX4_howManyFree 28 = .ok (.aload_n 0, 1) := by decide +kernel
theorem dX4_howManyFree_29 : decode cX4_howManyFree 29 = .ok (.getfield 10, 3) := by decide +kernel
theorem dX4_howManyFree_32 : decode cX4_howManyFree 32 = .ok (.iload_n 2, 1) := by decide +kernel
theorem dX4_howManyFree_33 : decode cX4_howManyFree 33 = .ok (.invokevirtual 154, 3) := by decide +kernel
theorem dX4_howManyFree_36 : decode cX4_howManyFree 36 = .ok (.ifCond .ne 7, 3) := by decide +kernel
theorem dX4_howManyFree_39 : decode cX4_howManyFree 39 = .ok (.iconst 1, 1) := by decide +kernel
theorem dX4_howManyFree_40 : decode cX4_howManyFree 40 = .ok (.goto 4, 3) := by decide +kernel
theorem dX4_howManyFree_43 : decode cX4_howManyFree 43 = .ok (.iconst 0, 1) := by decide +kernel
theorem dX4_howManyFree_44 : decode cX4_howManyFree 44 = .ok (.iadd, 1) := by decide +kernel
theorem dX4_howManyFree_45 : decode cX4_howManyFree 45 = .ok (.istore_n 1, 1) := by decide +kernel
theorem dX4_howManyFree_46 : decode cX4_howManyFree 46 = .ok (.iinc 2 1, 3) := by decide +kernel
theorem dX4_howManyFree_49 : decode cX4_howManyFree 49 = .ok (.goto (-34), 3) := by decide +kernel
theorem dX4_howManyFree_52 : decode cX4_howManyFree 52 = .ok (.iload_n 1, 1) := by decide +kernel
theorem dX4_howManyFree_53 : decode cX4_howManyFree 53 = .ok (.ireturn, 1) := by decide +kernel
theorem dX4_planned_0 : decode cX4_planned 0 = .ok (.aload_n 0, 1) := by decide +kernel
theorem dX4_planned_1 : decode cX4_planned 1 = .ok (.getfield 36, 3) := by decide +kernel
theorem dX4_planned_4 : decode cX4_planned 4 = .ok (.aload_n 0, 1) := by decide +kernel
theorem dX4_planned_5 : decode cX4_planned 5 = .ok (.getfield 10, 3) := by decide +kernel
theorem dX4_planned_8 : decode cX4_planned 8 = .ok (.invokevirtual 151, 3) := by decide +kernel
theorem dX4_planned_11 : decode cX4_planned 11 = .ok (.aload_n 0, 1) := by decide +kernel
theorem dX4_planned_12 : decode cX4_planned 12 = .ok (.getfield 16, 3) := by decide +kernel
theorem dX4_planned_15 : decode cX4_planned 15 = .ok (.aload_n 0, 1) := by decide +kernel
theorem dX4_planned_16 : decode cX4_planned 16 = .ok (.getfield 10, 3) := by decide +kernel
theorem dX4_planned_19 : decode cX4_planned 19 = .ok (.invokevirtual 76, 3) := by decide +kernel
theorem dX4_planned_22 : decode cX4_planned 22 = .ok (.iconst 0, 1) := by decide +kernel
theorem dX4_planned_23 : decode cX4_planned 23 = .ok (.istore_n 3, 1) := by decide +kernel
theorem dX4_planned_24 : decode cX4_planned 24 = .ok (.iload_n 3, 1) := by decide +kernel
theorem dX4_planned_25 : decode cX4_planned 25 = .ok (.bipush 24, 2) := by decide +kernel
theorem dX4_planned_27 : decode cX4_planned 27 = .ok (.if_icmp .gt 46, 3) := by decide +kernel
theorem dX4_planned_30 : decode cX4_planned 30 = .ok (.aload_n 0, 1) := by decide +kernel
theorem dX4_planned_31 : decode cX4_planned 31 = .ok (.aload_n 0, 1) := by decide +kernel
theorem dX4_planned_32 : decode cX4_planned 32 = .ok (.getfield 16, 3) := by decide +kernel
theorem dX4_planned_35 : decode cX4_planned 35 = .ok (.iload_n 1, 1) := by decide +kernel
theorem dX4_planned_36 : decode cX4_planned 36 = .ok (.invokevirtual 196, 3) := by decide +kernel
theorem dX4_planned_39 : decode cX4_planned 39 = .ok (.pop, 1) := by decide +kernel
theorem dX4_planned_40 : decode cX4_planned 40 = .ok (.aload_n 0, 1) := by decide +kernel
theorem dX4_planned_41 : decode cX4_planned 41 = .ok (.getfield 16, 3) := by decide +kernel
theorem dX4_planned_44 : decode cX4_planned 44 = .ok (.invokevirtual 280, 3) := by decide +kernel
theorem dX4_planned_47 : decode cX4_planned 47 = .ok (.istore 4, 2) := by decide +kernel
theorem dX4_planned_49 : decode cX4_planned 49 = .ok (.iload 4, 2) := by decide +kernel
theorem dX4_planned_51 : decode cX4_planned 51 = .ok (.ifCond .gt 6, 3) := by decide +kernel
theorem dX4_planned_54 : decode cX4_planned 54 = .ok (.goto 19, 3) := by decide +kernel
theorem dX4_planned_57 : decode cX4_planned 57 = .ok (.aload_n 0, 1) := by decide +kernel
theorem dX4_planned_58 : decode cX4_planned 58 = .ok (.getfield 16, 3) := by decide +kernel
theorem dX4_planned_61 : decode cX4_planned 61 = .ok (.iload 4, 2) := by decide +kernel
theorem dX4_planned_63 : decode cX4_planned 63 = .ok (.invokevirtual 193, 3) := by decide +kernel
theorem dX4_planned_66 : decode cX4_planned 66 = .ok (.pop, 1) := by decide +kernel
theorem dX4_planned_67 : decode cX4_planned 67 = .ok (.iinc 3 1, 3) := by decide +kernel
theorem dX4_planned_70 : decode cX4_planned 70 = .ok (.goto (-46), 3) := by decide +kernel
theorem dX4_planned_73 : decode cX4_planned 73 = .ok (.iload_n 2, 1) := by decide +kernel
theorem dX4_planned_74 : decode cX4_planned 74 = .ok (.ifCond .eq 23, 3) := by decide +kernel
theorem dX4_planned_77 : decode cX4_planned 77 = .ok (.aload_n 0, 1) := by decide +kernel
theorem dX4_planned_78 : decode cX4_planned 78 = .ok (.getfield 16, 3) := by decide +kernel
theorem dX4_planned_81 : decode cX4_planned 81 = .ok (.getfield 145, 3) := by decide +kernel
theorem dX4_planned_84 : decode cX4_planned 84 = .ok (.aload_n 0, 1) := by decide +kernel
theorem dX4_planned_85 : decode cX4_planned 85 = .ok (.getfield 16, 3) := by decide +kernel
theorem dX4_planned_88 : decode cX4_planned 88 = .ok (.getfield 83, 3) := by decide +kernel
theorem dX4_planned_91 : decode cX4_planned 91 = .ok (.invokestatic 255, 3) := by decide +kernel
theorem dX4_planned_94 : decode cX4_planned 94 = .ok (.goto 10, 3) := by decide +kernel
theorem dX4_planned_97 : decode cX4_planned 97 = .ok (.aload_n 0, 1) := by decide +kernel
theorem dX4_planned_98 : decode cX4_planned 98 = .ok (.getfield 16, 3) := by decide +kernel
theorem dX4_planned_101 : decode cX4_planned 101 = .ok (.invokevirtual 283, 3) := by decide +kernel
theorem dX4_planned_104 : decode cX4_planned 104 = .ok (.ireturn, 1) := by decide +kernel
