theorem dX2_init_0 : decode cX2_init 0 = .ok (.aload_n 0, 1) := by decide +kernel
theorem dX2_init_1 : decode cX2_init 1 = .ok (.invokespecial 3, 3) := by decide +kernel
theorem dX2_init_4 : decode cX2_init 4 = .ok (.aload_n 0, 1) := by decide +kernel
theorem dX2_init_5 : decode cX2_init 5 = .ok (.sipush 160, 3) := by decide +kernel
theorem dX2_init_8 : decode cX2_init 8 = .ok (.newarray .byte, 2) := by decide +kernel
theorem dX2_init_10 : decode cX2_init 10 = .ok (.putfield 9, 3) := by decide +kernel
theorem dX2_init_13 : decode cX2_init 13 = .ok (.return_, 1) := by decide +kernel
theorem dX2_readInto_0 : decode cX2_readInto 0 = .ok (.aload_n 1, 1) := by decide +kernel
theorem dX2_readInto_1 : decode cX2_readInto 1 = .ok (.invokevirtual 15, 3) := by decide +kernel
theorem dX2_readInto_4 : decode cX2_readInto 4 = .ok (.aload_n 0, 1) := by decide +kernel
theorem dX2_readInto_5 : decode cX2_readInto 5 = .ok (.iconst 0, 1) := by decide +kernel
theorem dX2_readInto_6 : decode cX2_readInto 6 = .ok (.putfield 20, 3) := by decide +kernel
theorem dX2_readInto_9 : decode cX2_readInto 9 = .ok (.aload_n 0, 1) := by decide +kernel
theorem dX2_readInto_10 : decode cX2_readInto 10 = .ok (.iconst 0, 1) := by decide +kernel
theorem dX2_readInto_11 : decode cX2_readInto 11 = .ok (.putfield 24, 3) := by decide +kernel
theorem dX2_readInto_14 : decode cX2_readInto 14 = .ok (.aload_n 0, 1) := by decide +kernel
theorem dX2_readInto_15 : decode cX2_readInto 15 = .ok (.iconst 0, 1) := by decide +kernel
theorem dX2_readInto_16 : decode cX2_readInto 16 = .ok (.putfield 27, 3) := by decide +kernel
theorem dX2_readInto_19 : decode cX2_readInto 19 = .ok (.iconst 0, 1) := by decide +kernel
theorem dX2_readInto_20 : decode cX2_readInto 20 = .ok (.istore_n 2, 1) := by decide +kernel
theorem dX2_readInto_21 : decode cX2_readInto 21 = .ok (.iconst 0, 1) := by decide +kernel
theorem dX2_readInto_22 : decode cX2_readInto 22 = .ok (.istore_n 3, 1) := by decide +kernel
theorem dX2_readInto_23 : decode cX2_readInto 23 = .ok (.iload_n 3, 1) := by decide +kernel
theorem dX2_readInto_24 : decode cX2_readInto 24 = .ok (.sipush 160, 3) := by decide +kernel
theorem dX2_readInto_27 : decode cX2_readInto 27 = .ok (.if_icmp .gt 36, 3) := by decide +kernel
theorem dX2_readInto_30 : decode cX2_readInto 30 = .ok (.aload_n 0, 1) := by decide +kernel
theorem dX2_readInto_31 : decode cX2_readInto 31 = .ok (.invokevirtual 30, 3) := by decide +kernel
theorem dX2_readInto_34 : decode cX2_readInto 34 = .ok (.ifCond .eq 18, 3) := by decide +kernel
theorem dX2_readInto_37 : decode cX2_readInto 37 = .ok (.aload_n 0, 1) := by decide +kernel
theorem dX2_readInto_38 : decode cX2_readInto 38 = .ok (.getfield 34, 3) := by decide +kernel
theorem dX2_readInto_41 : decode cX2_readInto 41 = .ok (.ifCond .eq 11, 3) := by decide +kernel
theorem dX2_readInto_44 : decode cX2_readInto 44 = .ok (.aload_n 0, 1) := by decide +kernel
theorem dX2_readInto_45 : decode cX2_readInto 45 = .ok (.aload_n 1, 1) := by decide +kernel
theorem dX2_readInto_46 : decode cX2_readInto 46 = .ok (.invokevirtual 37, 3) := by decide +kernel
theorem dX2_readInto_49 : decode cX2_readInto 49 = .ok (.ifCond .ne 5, 3) := by decide +kernel
theorem dX2_readInto_52 : decode cX2_readInto 52 = .ok (.iload_n 2, 1) := by decide +kernel
theorem dX2_readInto_53 : decode cX2_readInto 53 = .ok (.ireturn, 1) := by decide +kernel
theorem dX2_readInto_54 : decode cX2_readInto 54 = .ok (.iinc 2 1, 3) := by decide +kernel
theorem dX2_readInto_57 : decode cX2_readInto 57 = .ok (.iinc 3 1, 3) := by decide +kernel
theorem dX2_readInto_60 : decode cX2_readInto 60 = .ok (.goto (-37), 3) := by decide +kernel
theorem dX2_readInto_63 : decode cX2_readInto 63 = .ok (.iload_n 2, 1) := by decide +kernel
theorem dX2_readInto_64 : decode cX2_readInto 64 = .ok (.ireturn, 1) := by decide +kernel
theorem dX2_failBehindAll_0 : decode cX2_failBehindAll 0 = .ok (.aload_n 0, 1) := by decide +kernel
theorem dX2_failBehindAll_1 : decode cX2_failBehindAll 1 = .ok (.iload_n 1, 1) := by decide +kernel
theorem dX2_failBehindAll_2 : decode cX2_failBehindAll 2 = .ok (.putfield 20, 3) := by decide +kernel
theorem dX2_failBehindAll_5 : decode cX2_failBehindAll 5 = .ok (.aload_n 0, 1) := by decide +kernel
theorem dX2_failBehindAll_6 : decode cX2_failBehindAll 6 = .ok (.aload_n 0, 1) := by decide +kernel
theorem dX2_failBehindAll_7 : decode cX2_failBehindAll 7 = .ok (.getfield 41, 3) := by decide +kernel
theorem dX2_failBehindAll_10 : decode cX2_failBehindAll 10 = .ok (.putfield 24, 3) := by decide +kernel
theorem dX2_failBehindAll_13 : decode cX2_failBehindAll 13 = .ok (.return_, 1) := by decide +kernel
theorem dX2_fail_0 : decode cX2_fail 0 = .ok (.aload_n 0, 1) := by decide +kernel
theorem dX2_fail_1 : decode cX2_fail 1 = .ok (.iload_n 1, 1) := by decide +kernel
theorem dX2_fail_2 : decode cX2_fail 2 = .ok (.putfield 20, 3) := by decide +kernel
theorem dX2_fail_5 : decode cX2_fail 5 = .ok (.aload_n 0, 1) := by decide +kernel
theorem dX2_fail_6 : decode cX2_fail 6 = .ok (.aload_n 0, 1) := by decide +kernel
theorem dX2_fail_7 : decode cX2_fail 7 = .ok (.getfield 44, 3) := by decide +kernel
theorem dX2_fail_10 : decode cX2_fail 10 = .ok (.putfield 24, 3) := by decide +kernel
theorem dX2_fail_13 : decode cX2_fail 13 = .ok (.iconst 0, 1) := by decide +kernel
theorem dX2_fail_14 : decode cX2_fail 14 = .ok (.ireturn, 1) := by decide +kernel
theorem dX2_takeLine_0 : decode cX2_takeLine 0 = .ok (.aload_n 0, 1) := by decide +kernel
theorem dX2_takeLine_1 : decode cX2_takeLine 1 = .ok (.ldc 47, 2) := by decide +kernel
theorem dX2_takeLine_3 : decode cX2_takeLine 3 = .ok (.invokevirtual 49, 3) := by decide +kernel
theorem dX2_takeLine_6 : decode cX2_takeLine 6 = .ok (.ifCond .eq 9, 3) := by decide +kernel
theorem dX2_takeLine_9 : decode cX2_takeLine 9 = .ok (.aload_n 0, 1) := by decide +kernel
theorem dX2_takeLine_10 : decode cX2_takeLine 10 = .ok (.aload_n 1, 1) := by decide +kernel
theorem dX2_takeLine_11 : decode cX2_takeLine 11 = .ok (.invokevirtual 53, 3) := by decide +kernel
theorem dX2_takeLine_14 : decode cX2_takeLine 14 = .ok (.ireturn, 1) := by decide +kernel
theorem dX2_takeLine_15 : decode cX2_takeLine 15 = .ok (.aload_n 0, 1) := by decide +kernel
theorem dX2_takeLine_16 : decode cX2_takeLine 16 = .ok (.ldc 56, 2) := by decide +kernel
theorem dX2_takeLine_18 : decode cX2_takeLine 18 = .ok (.invokevirtual 49, 3) := by decide +kernel
theorem dX2_takeLine_21 : decode cX2_takeLine 21 = .ok (.ifCond .eq 9, 3) := by decide +kernel
theorem dX2_takeLine_24 : decode cX2_takeLine 24 = .ok (.aload_n 0, 1) := by decide +kernel
theorem dX2_takeLine_25 : decode cX2_takeLine 25 = .ok (.aload_n 1, 1) := by decide +kernel
theorem dX2_takeLine_26 : decode cX2_takeLine 26 = .ok (.invokevirtual 58, 3) := by decide +kernel
theorem dX2_takeLine_29 : decode cX2_takeLine 29 = .ok (.ireturn, 1) := by decide +kernel
theorem dX2_takeLine_30 : decode cX2_takeLine 30 = .ok (.aload_n 0, 1) := by decide +kernel
theorem dX2_takeLine_31 : decode cX2_takeLine 31 = .ok (.ldc 61, 2) := by decide +kernel
theorem dX2_takeLine_33 : decode cX2_takeLine 33 = .ok (.invokevirtual 49, 3) := by decide +kernel
theorem dX2_takeLine_36 : decode cX2_takeLine 36 = .ok (.ifCond .eq 9, 3) := by decide +kernel
theorem dX2_takeLine_39 : decode cX2_takeLine 39 = .ok (.aload_n 0, 1) := by decide +kernel
theorem dX2_takeLine_40 : decode cX2_takeLine 40 = .ok (.aload_n 1, 1) := by decide +kernel
theorem dX2_takeLine_41 : decode cX2_takeLine 41 = .ok (.invokevirtual 63, 3) := by decide +kernel
theorem dX2_takeLine_44 : decode cX2_takeLine 44 = .ok (.ireturn, 1) := by decide +kernel
theorem dX2_takeLine_45 : decode cX2_takeLine 45 = .ok (.aload_n 0, 1) := by decide +kernel
theorem dX2_takeLine_46 : decode cX2_takeLine 46 = .ok (.iconst 2, 1) := by decide +kernel
theorem dX2_takeLine_47 : decode cX2_takeLine 47 = .ok (.invokevirtual 66, 3) := by decide +kernel
theorem dX2_takeLine_50 : decode cX2_takeLine 50 = .ok (.ireturn, 1) := by decide +kernel
theorem dX2_takePlace_0 : decode cX2_takePlace 0 = .ok (.aload_n 1, 1) := by decide +kernel
theorem dX2_takePlace_1 : decode cX2_takePlace 1 = .ok (.getfield 70, 3) := by decide +kernel
theorem dX2_takePlace_4 : decode cX2_takePlace 4 = .ok (.bipush 6, 2) := by decide +kernel
theorem dX2_takePlace_6 : decode cX2_takePlace 6 = .ok (.if_icmp .lt 9, 3) := by decide +kernel
theorem dX2_takePlace_9 : decode cX2_takePlace 9 = .ok (.aload_n 0, 1) := by decide +kernel
theorem dX2_takePlace_10 : decode cX2_takePlace 10 = .ok (.iconst 5, 1) := by decide +kernel
theorem dX2_takePlace_11 : decode cX2_takePlace 11 = .ok (.invokevirtual 66, 3) := by decide +kernel
theorem dX2_takePlace_14 : decode cX2_takePlace 14 = .ok (.ireturn, 1) := by decide +kernel
theorem dX2_takePlace_15 : decode cX2_takePlace 15 = .ok (.aload_n 1, 1) := by decide +kernel
theorem dX2_takePlace_16 : decode cX2_takePlace 16 = .ok (.invokevirtual 73, 3) := by decide +kernel
theorem dX2_takePlace_19 : decode cX2_takePlace 19 = .ok (.iconst 0, 1) := by decide +kernel
theorem dX2_takePlace_20 : decode cX2_takePlace 20 = .ok (.istore_n 2, 1) := by decide +kernel
theorem dX2_takePlace_21 : decode cX2_takePlace 21 = .ok (.iload_n 2, 1) := by decide +kernel
theorem dX2_takePlace_22 : decode cX2_takePlace 22 = .ok (.iconst 3, 1) := by decide +kernel
theorem dX2_takePlace_23 : decode cX2_takePlace 23 = .ok (.if_icmp .ge 52, 3) := by decide +kernel
theorem dX2_takePlace_26 : decode cX2_takePlace 26 = .ok (.aload_n 0, 1) := by decide +kernel
theorem dX2_takePlace_27 : decode cX2_takePlace 27 = .ok (.invokevirtual 30, 3) := by decide +kernel
theorem dX2_takePlace_30 : decode cX2_takePlace 30 = .ok (.ifCond .ne 5, 3) := by decide +kernel
theorem dX2_takePlace_33 : decode cX2_takePlace 33 = .ok (.iconst 0, 1) := by decide +kernel
theorem dX2_takePlace_34 : decode cX2_takePlace 34 = .ok (.ireturn, 1) := by decide +kernel
theorem dX2_takePlace_35 : decode cX2_takePlace 35 = .ok (.iload_n 2, 1) := by decide +kernel
theorem dX2_takePlace_36 : decode cX2_takePlace 36 = .ok (.ifCond .le 13, 3) := by decide +kernel
theorem dX2_takePlace_39 : decode cX2_takePlace 39 = .ok (.aload_n 0, 1) := by decide +kernel
theorem dX2_takePlace_40 : decode cX2_takePlace 40 = .ok (.getfield 34, 3) := by decide +kernel
theorem dX2_takePlace_43 : decode cX2_takePlace 43 = .ok (.iconst 3, 1) := by decide +kernel
theorem dX2_takePlace_44 : decode cX2_takePlace 44 = .ok (.if_icmp .ne 5, 3) := by decide +kernel
theorem dX2_takePlace_47 : decode cX2_takePlace 47 = .ok (.iconst 1, 1) := by decide +kernel
theorem dX2_takePlace_48 : decode cX2_takePlace 48 = .ok (.ireturn, 1) := by decide +kernel
theorem dX2_takePlace_49 : decode cX2_takePlace 49 = .ok (.aload_n 0, 1) := by decide +kernel
theorem dX2_takePlace_50 : decode cX2_takePlace 50 = .ok (.iconst 1, 1) := by decide +kernel
theorem dX2_takePlace_51 : decode cX2_takePlace 51 = .ok (.bipush 20, 2) := by decide +kernel
theorem dX2_takePlace_53 : decode cX2_takePlace 53 = .ok (.invokevirtual 76, 3) := by decide +kernel
theorem dX2_takePlace_56 : decode cX2_takePlace 56 = .ok (.ifCond .ne 5, 3) := by decide +kernel
theorem dX2_takePlace_59 : decode cX2_takePlace 59 = .ok (.iconst 0, 1) := by decide +kernel
theorem dX2_takePlace_60 : decode cX2_takePlace 60 = .ok (.ireturn, 1) := by decide +kernel
theorem dX2_takePlace_61 : decode cX2_takePlace 61 = .ok (.aload_n 1, 1) := by decide +kernel
theorem dX2_takePlace_62 : decode cX2_takePlace 62 = .ok (.aload_n 0, 1) := by decide +kernel
theorem dX2_takePlace_63 : decode cX2_takePlace 63 = .ok (.getfield 80, 3) := by decide +kernel
theorem dX2_takePlace_66 : decode cX2_takePlace 66 = .ok (.invokevirtual 83, 3) := by decide +kernel
theorem dX2_takePlace_69 : decode cX2_takePlace 69 = .ok (.iinc 2 1, 3) := by decide +kernel
theorem dX2_takePlace_72 : decode cX2_takePlace 72 = .ok (.goto (-51), 3) := by decide +kernel
theorem dX2_takePlace_75 : decode cX2_takePlace 75 = .ok (.aload_n 0, 1) := by decide +kernel
theorem dX2_takePlace_76 : decode cX2_takePlace 76 = .ok (.invokevirtual 87, 3) := by decide +kernel
theorem dX2_takePlace_79 : decode cX2_takePlace 79 = .ok (.ireturn, 1) := by decide +kernel
theorem dX2_takeSection_0 : decode cX2_takeSection 0 = .ok (.aload_n 1, 1) := by decide +kernel
theorem dX2_takeSection_1 : decode cX2_takeSection 1 = .ok (.getfield 70, 3) := by decide +kernel
theorem dX2_takeSection_4 : decode cX2_takeSection 4 = .ok (.iconst 1, 1) := by decide +kernel
theorem dX2_takeSection_5 : decode cX2_takeSection 5 = .ok (.if_icmp .ge 9, 3) := by decide +kernel
theorem dX2_takeSection_8 : decode cX2_takeSection 8 = .ok (.aload_n 0, 1) := by decide +kernel
theorem dX2_takeSection_9 : decode cX2_takeSection 9 = .ok (.iconst 5, 1) := by decide +kernel
theorem dX2_takeSection_10 : decode cX2_takeSection 10 = .ok (.invokevirtual 66, 3) := by decide +kernel
theorem dX2_takeSection_13 : decode cX2_takeSection 13 = .ok (.ireturn, 1) := by decide +kernel
theorem dX2_takeSection_14 : decode cX2_takeSection 14 = .ok (.aload_n 0, 1) := by decide +kernel
theorem dX2_takeSection_15 : decode cX2_takeSection 15 = .ok (.iconst 1, 1) := by decide +kernel
theorem dX2_takeSection_16 : decode cX2_takeSection 16 = .ok (.bipush 9, 2) := by decide +kernel
theorem dX2_takeSection_18 : decode cX2_takeSection 18 = .ok (.invokevirtual 90, 3) := by decide +kernel
theorem dX2_takeSection_21 : decode cX2_takeSection 21 = .ok (.ifCond .ne 5, 3) := by decide +kernel
theorem dX2_takeSection_24 : decode cX2_takeSection 24 = .ok (.iconst 0, 1) := by decide +kernel
theorem dX2_takeSection_25 : decode cX2_takeSection 25 = .ok (.ireturn, 1) := by decide +kernel
theorem dX2_takeSection_26 : decode cX2_takeSection 26 = .ok (.aload_n 1, 1) := by decide +kernel
theorem dX2_takeSection_27 : decode cX2_takeSection 27 = .ok (.getfield 93, 3) := by decide +kernel
theorem dX2_takeSection_30 : decode cX2_takeSection 30 = .ok (.aload_n 1, 1) := by decide +kernel
theorem dX2_takeSection_31 : decode cX2_takeSection 31 = .ok (.getfield 70, 3) := by decide +kernel
theorem dX2_takeSection_34 : decode cX2_takeSection 34 = .ok (.iconst 1, 1) := by decide +kernel
theorem dX2_takeSection_35 : decode cX2_takeSection 35 = .ok (.isub, 1) := by decide +kernel
theorem dX2_takeSection_36 : decode cX2_takeSection 36 = .ok (.aload_n 0, 1) := by decide +kernel
theorem dX2_takeSection_37 : decode cX2_takeSection 37 = .ok (.getfield 80, 3) := by decide +kernel
theorem dX2_takeSection_40 : decode cX2_takeSection 40 = .ok (.iastore, 1) := by decide +kernel
theorem dX2_takeSection_41 : decode cX2_takeSection 41 = .ok (.aload_n 0, 1) := by decide +kernel
theorem dX2_takeSection_42 : decode cX2_takeSection 42 = .ok (.invokevirtual 87, 3) := by decide +kernel
theorem dX2_takeSection_45 : decode cX2_takeSection 45 = .ok (.ireturn, 1) := by decide +kernel
theorem dX2_takeTrain_0 : decode cX2_takeTrain 0 = .ok (.aload_n 1, 1) := by decide +kernel
theorem dX2_takeTrain_1 : decode cX2_takeTrain 1 = .ok (.getfield 97, 3) := by decide +kernel
theorem dX2_takeTrain_4 : decode cX2_takeTrain 4 = .ok (.iconst 4, 1) := by decide +kernel
theorem dX2_takeTrain_5 : decode cX2_takeTrain 5 = .ok (.if_icmp .lt 9, 3) := by decide +kernel
theorem dX2_takeTrain_8 : decode cX2_takeTrain 8 = .ok (.aload_n 0, 1) := by decide +kernel
theorem dX2_takeTrain_9 : decode cX2_takeTrain 9 = .ok (.iconst 5, 1) := by decide +kernel
theorem dX2_takeTrain_10 : decode cX2_takeTrain 10 = .ok (.invokevirtual 66, 3) := by decide +kernel
theorem dX2_takeTrain_13 : decode cX2_takeTrain 13 = .ok (.ireturn, 1) := by decide +kernel
theorem dX2_takeTrain_14 : decode cX2_takeTrain 14 = .ok (.aload_n 0, 1) := by decide +kernel
theorem dX2_takeTrain_15 : decode cX2_takeTrain 15 = .ok (.iconst 0, 1) := by decide +kernel
theorem dX2_takeTrain_16 : decode cX2_takeTrain 16 = .ok (.iconst 5, 1) := by decide +kernel
theorem dX2_takeTrain_17 : decode cX2_takeTrain 17 = .ok (.invokevirtual 90, 3) := by decide +kernel
theorem dX2_takeTrain_20 : decode cX2_takeTrain 20 = .ok (.ifCond .ne 5, 3) := by decide +kernel
theorem dX2_takeTrain_23 : decode cX2_takeTrain 23 = .ok (.iconst 0, 1) := by decide +kernel
theorem dX2_takeTrain_24 : decode cX2_takeTrain 24 = .ok (.ireturn, 1) := by decide +kernel
theorem dX2_takeTrain_25 : decode cX2_takeTrain 25 = .ok (.aload_n 0, 1) := by decide +kernel
theorem dX2_takeTrain_26 : decode cX2_takeTrain 26 = .ok (.getfield 80, 3) := by decide +kernel
theorem dX2_takeTrain_29 : decode cX2_takeTrain 29 = .ok (.istore_n 2, 1) := by decide +kernel
theorem dX2_takeTrain_30 : decode cX2_takeTrain 30 = .ok (.aload_n 0, 1) := by decide +kernel
theorem dX2_takeTrain_31 : decode cX2_takeTrain 31 = .ok (.iconst 0, 1) := by decide +kernel
theorem dX2_takeTrain_32 : decode cX2_takeTrain 32 = .ok (.iconst 5, 1) := by decide +kernel
theorem dX2_takeTrain_33 : decode cX2_takeTrain 33 = .ok (.invokevirtual 90, 3) := by decide +kernel
theorem dX2_takeTrain_36 : decode cX2_takeTrain 36 = .ok (.ifCond .ne 5, 3) := by decide +kernel
theorem dX2_takeTrain_39 : decode cX2_takeTrain 39 = .ok (.iconst 0, 1) := by decide +kernel
theorem dX2_takeTrain_40 : decode cX2_takeTrain 40 = .ok (.ireturn, 1) := by decide +kernel
theorem dX2_takeTrain_41 : decode cX2_takeTrain 41 = .ok (.aload_n 0, 1) := by decide +kernel
theorem dX2_takeTrain_42 : decode cX2_takeTrain 42 = .ok (.getfield 80, 3) := by decide +kernel
theorem dX2_takeTrain_45 : decode cX2_takeTrain 45 = .ok (.istore_n 3, 1) := by decide +kernel
theorem dX2_takeTrain_46 : decode cX2_takeTrain 46 = .ok (.iload_n 3, 1) := by decide +kernel
theorem dX2_takeTrain_47 : decode cX2_takeTrain 47 = .ok (.iload_n 2, 1) := by decide +kernel
theorem dX2_takeTrain_48 : decode cX2_takeTrain 48 = .ok (.if_icmp .ne 9, 3) := by decide +kernel
theorem dX2_takeTrain_51 : decode cX2_takeTrain 51 = .ok (.aload_n 0, 1) := by decide +kernel
theorem dX2_takeTrain_52 : decode cX2_takeTrain 52 = .ok (.iconst 4, 1) := by decide +kernel
theorem dX2_takeTrain_53 : decode cX2_takeTrain 53 = .ok (.invokevirtual 66, 3) := by decide +kernel
theorem dX2_takeTrain_56 : decode cX2_takeTrain 56 = .ok (.ireturn, 1) := by decide +kernel
theorem dX2_takeTrain_57 : decode cX2_takeTrain 57 = .ok (.aload_n 0, 1) := by decide +kernel
theorem dX2_takeTrain_58 : decode cX2_takeTrain 58 = .ok (.iconst 1, 1) := by decide +kernel
theorem dX2_takeTrain_59 : decode cX2_takeTrain 59 = .ok (.bipush 20, 2) := by decide +kernel
theorem dX2_takeTrain_61 : decode cX2_takeTrain 61 = .ok (.invokevirtual 90, 3) := by decide +kernel
theorem dX2_takeTrain_64 : decode cX2_takeTrain 64 = .ok (.ifCond .ne 5, 3) := by decide +kernel
theorem dX2_takeTrain_67 : decode cX2_takeTrain 67 = .ok (.iconst 0, 1) := by decide +kernel
theorem dX2_takeTrain_68 : decode cX2_takeTrain 68 = .ok (.ireturn, 1) := by decide +kernel
theorem dX2_takeTrain_69 : decode cX2_takeTrain 69 = .ok (.aload_n 1, 1) := by decide +kernel
theorem dX2_takeTrain_70 : decode cX2_takeTrain 70 = .ok (.iload_n 2, 1) := by decide +kernel
theorem dX2_takeTrain_71 : decode cX2_takeTrain 71 = .ok (.iload_n 3, 1) := by decide +kernel
theorem dX2_takeTrain_72 : decode cX2_takeTrain 72 = .ok (.aload_n 0, 1) := by decide +kernel
theorem dX2_takeTrain_73 : decode cX2_takeTrain 73 = .ok (.getfield 80, 3) := by decide +kernel
theorem dX2_takeTrain_76 : decode cX2_takeTrain 76 = .ok (.invokevirtual 100, 3) := by decide +kernel
theorem dX2_takeTrain_79 : decode cX2_takeTrain 79 = .ok (.aload_n 0, 1) := by decide +kernel
theorem dX2_takeTrain_80 : decode cX2_takeTrain 80 = .ok (.invokevirtual 87, 3) := by decide +kernel
theorem dX2_takeTrain_83 : decode cX2_takeTrain 83 = .ok (.ireturn, 1) := by decide +kernel
theorem dX2_takeNumber_0 : decode cX2_takeNumber 0 = .ok (.aload_n 0, 1) := by decide +kernel
theorem dX2_takeNumber_1 : decode cX2_takeNumber 1 = .ok (.invokevirtual 30, 3) := by decide +kernel
theorem dX2_takeNumber_4 : decode cX2_takeNumber 4 = .ok (.ifCond .eq 16, 3) := by decide +kernel
theorem dX2_takeNumber_7 : decode cX2_takeNumber 7 = .ok (.aload_n 0, 1) := by decide +kernel
theorem dX2_takeNumber_8 : decode cX2_takeNumber 8 = .ok (.iload_n 1, 1) := by decide +kernel
theorem dX2_takeNumber_9 : decode cX2_takeNumber 9 = .ok (.iload_n 2, 1) := by decide +kernel
theorem dX2_takeNumber_10 : decode cX2_takeNumber 10 = .ok (.invokevirtual 76, 3) := by decide +kernel
theorem dX2_takeNumber_13 : decode cX2_takeNumber 13 = .ok (.ifCond .eq 7, 3) := by decide +kernel
theorem dX2_takeNumber_16 : decode cX2_takeNumber 16 = .ok (.iconst 1, 1) := by decide +kernel
theorem dX2_takeNumber_17 : decode cX2_takeNumber 17 = .ok (.goto 4, 3) := by decide +kernel
theorem dX2_takeNumber_20 : decode cX2_takeNumber 20 = .ok (.iconst 0, 1) := by decide +kernel
theorem dX2_takeNumber_21 : decode cX2_takeNumber 21 = .ok (.ireturn, 1) := by decide +kernel
theorem dX2_isNumberWithin_0 : decode cX2_isNumberWithin 0 = .ok (.aload_n 0, 1) := by decide +kernel
theorem dX2_isNumberWithin_1 : decode cX2_isNumberWithin 1 = .ok (.getfield 34, 3) := by decide +kernel
theorem dX2_isNumberWithin_4 : decode cX2_isNumberWithin 4 = .ok (.iconst 2, 1) := by decide +kernel
theorem dX2_isNumberWithin_5 : decode cX2_isNumberWithin 5 = .ok (.if_icmp .eq 9, 3) := by decide +kernel
theorem dX2_isNumberWithin_8 : decode cX2_isNumberWithin 8 = .ok (.aload_n 0, 1) := by decide +kernel
theorem dX2_isNumberWithin_9 : decode cX2_isNumberWithin 9 = .ok (.iconst 2, 1) := by decide +kernel
theorem dX2_isNumberWithin_10 : decode cX2_isNumberWithin 10 = .ok (.invokevirtual 66, 3) := by decide +kernel
theorem dX2_isNumberWithin_13 : decode cX2_isNumberWithin 13 = .ok (.ireturn, 1) := by decide +kernel
theorem dX2_isNumberWithin_14 : decode cX2_isNumberWithin 14 = .ok (.aload_n 0, 1) := by decide +kernel
theorem dX2_isNumberWithin_15 : decode cX2_isNumberWithin 15 = .ok (.iconst 0, 1) := by decide +kernel
theorem dX2_isNumberWithin_16 : decode cX2_isNumberWithin 16 = .ok (.putfield 80, 3) := by decide +kernel
theorem dX2_isNumberWithin_19 : decode cX2_isNumberWithin 19 = .ok (.aload_n 0, 1) := by decide +kernel
theorem dX2_isNumberWithin_20 : decode cX2_isNumberWithin 20 = .ok (.getfield 44, 3) := by decide +kernel
theorem dX2_isNumberWithin_23 : decode cX2_isNumberWithin 23 = .ok (.istore_n 3, 1) := by decide +kernel
theorem dX2_isNumberWithin_24 : decode cX2_isNumberWithin 24 = .ok (.iload_n 3, 1) := by decide +kernel
theorem dX2_isNumberWithin_25 : decode cX2_isNumberWithin 25 = .ok (.aload_n 0, 1) := by decide +kernel
theorem dX2_isNumberWithin_26 : decode cX2_isNumberWithin 26 = .ok (.getfield 27, 3) := by decide +kernel
theorem dX2_isNumberWithin_29 : decode cX2_isNumberWithin 29 = .ok (.if_icmp .ge 30, 3) := by decide +kernel
theorem dX2_isNumberWithin_32 : decode cX2_isNumberWithin 32 = .ok (.aload_n 0, 1) := by decide +kernel
theorem dX2_isNumberWithin_33 : decode cX2_isNumberWithin 33 = .ok (.aload_n 0, 1) := by decide +kernel
theorem dX2_isNumberWithin_34 : decode cX2_isNumberWithin 34 = .ok (.getfield 80, 3) := by decide +kernel
theorem dX2_isNumberWithin_37 : decode cX2_isNumberWithin 37 = .ok (.bipush 10, 2) := by decide +kernel
theorem dX2_isNumberWithin_39 : decode cX2_isNumberWithin 39 = .ok (.imul, 1) := by decide +kernel
theorem dX2_isNumberWithin_40 : decode cX2_isNumberWithin 40 = .ok (.aload_n 0, 1) := by decide +kernel
theorem dX2_isNumberWithin_41 : decode cX2_isNumberWithin 41 = .ok (.getfield 9, 3) := by decide +kernel
theorem dX2_isNumberWithin_44 : decode cX2_isNumberWithin 44 = .ok (.iload_n 3, 1) := by decide +kernel
theorem dX2_isNumberWithin_45 : decode cX2_isNumberWithin 45 = .ok (.baload, 1) := by decide +kernel
theorem dX2_isNumberWithin_46 : decode cX2_isNumberWithin 46 = .ok (.iadd, 1) := by decide +kernel
theorem dX2_isNumberWithin_47 : decode cX2_isNumberWithin 47 = .ok (.bipush 48, 2) := by decide +kernel
theorem dX2_isNumberWithin_49 : decode cX2_isNumberWithin 49 = .ok (.isub, 1) := by decide +kernel
theorem dX2_isNumberWithin_50 : decode cX2_isNumberWithin 50 = .ok (.putfield 80, 3) := by decide +kernel
theorem dX2_isNumberWithin_53 : decode cX2_isNumberWithin 53 = .ok (.iinc 3 1, 3) := by decide +kernel
theorem dX2_isNumberWithin_56 : decode cX2_isNumberWithin 56 = .ok (.goto (-32), 3) := by decide +kernel
theorem dX2_isNumberWithin_59 : decode cX2_isNumberWithin 59 = .ok (.aload_n 0, 1) := by decide +kernel
theorem dX2_isNumberWithin_60 : decode cX2_isNumberWithin 60 = .ok (.getfield 80, 3) := by decide +kernel
theorem dX2_isNumberWithin_63 : decode cX2_isNumberWithin 63 = .ok (.iload_n 1, 1) := by decide +kernel
theorem dX2_isNumberWithin_64 : decode cX2_isNumberWithin 64 = .ok (.if_icmp .lt 11, 3) := by decide +kernel
theorem dX2_isNumberWithin_67 : decode cX2_isNumberWithin 67 = .ok (.aload_n 0, 1) := by decide +kernel
theorem dX2_isNumberWithin_68 : decode cX2_isNumberWithin 68 = .ok (.getfield 80, 3) := by decide +kernel
theorem dX2_isNumberWithin_71 : decode cX2_isNumberWithin 71 = .ok (.iload_n 2, 1) := by decide +kernel
theorem dX2_isNumberWithin_72 : decode cX2_isNumberWithin 72 = .ok (.if_icmp .le 11, 3) := by decide +kernel
theorem dX2_isNumberWithin_75 : decode cX2_isNumberWithin 75 = .ok (.aload_n 0, 1) := by decide +kernel
theorem dX2_isNumberWithin_76 : decode cX2_isNumberWithin 76 = .ok (.iconst 3, 1) := by decide +kernel
theorem dX2_isNumberWithin_77 : decode cX2_isNumberWithin 77 = .ok (.invokevirtual 66, 3) := by decide +kernel
theorem dX2_isNumberWithin_80 : decode cX2_isNumberWithin 80 = .ok (.ifCond .eq 7, 3) := by decide +kernel
theorem dX2_isNumberWithin_83 : decode cX2_isNumberWithin 83 = .ok (.iconst 1, 1) := by decide +kernel
theorem dX2_isNumberWithin_84 : decode cX2_isNumberWithin 84 = .ok (.goto 4, 3) := by decide +kernel
theorem dX2_isNumberWithin_87 : decode cX2_isNumberWithin 87 = .ok (.iconst 0, 1) := by decide +kernel
theorem dX2_isNumberWithin_88 : decode cX2_isNumberWithin 88 = .ok (.ireturn, 1) := by decide +kernel
theorem dX2_takeSign_0 : decode cX2_takeSign 0 = .ok (.aload_n 0, 1) := by decide +kernel
theorem dX2_takeSign_1 : decode cX2_takeSign 1 = .ok (.invokevirtual 30, 3) := by decide +kernel
theorem dX2_takeSign_4 : decode cX2_takeSign 4 = .ok (.ifCond .eq 23, 3) := by decide +kernel
theorem dX2_takeSign_7 : decode cX2_takeSign 7 = .ok (.aload_n 0, 1) := by decide +kernel
theorem dX2_takeSign_8 : decode cX2_takeSign 8 = .ok (.getfield 34, 3) := by decide +kernel
theorem dX2_takeSign_11 : decode cX2_takeSign 11 = .ok (.iconst 3, 1) := by decide +kernel
theorem dX2_takeSign_12 : decode cX2_takeSign 12 = .ok (.if_icmp .eq 11, 3) := by decide +kernel
theorem dX2_takeSign_15 : decode cX2_takeSign 15 = .ok (.aload_n 0, 1) := by decide +kernel
theorem dX2_takeSign_16 : decode cX2_takeSign 16 = .ok (.iconst 2, 1) := by decide +kernel
theorem dX2_takeSign_17 : decode cX2_takeSign 17 = .ok (.invokevirtual 66, 3) := by decide +kernel
theorem dX2_takeSign_20 : decode cX2_takeSign 20 = .ok (.ifCond .eq 7, 3) := by decide +kernel
theorem dX2_takeSign_23 : decode cX2_takeSign 23 = .ok (.iconst 1, 1) := by decide +kernel
theorem dX2_takeSign_24 : decode cX2_takeSign 24 = .ok (.goto 4, 3) := by decide +kernel
theorem dX2_takeSign_27 : decode cX2_takeSign 27 = .ok (.iconst 0, 1) := by decide +kernel
theorem dX2_takeSign_28 : decode cX2_takeSign 28 = .ok (.ireturn, 1) := by decide +kernel
theorem dX2_takeToken_0 : decode cX2_takeToken 0 = .ok (.aload_n 0, 1) := by decide +kernel
theorem dX2_takeToken_1 : decode cX2_takeToken 1 = .ok (.getfield 27, 3) := by decide +kernel
theorem dX2_takeToken_4 : decode cX2_takeToken 4 = .ok (.aload_n 0, 1) := by decide +kernel
theorem dX2_takeToken_5 : decode cX2_takeToken 5 = .ok (.getfield 41, 3) := by decide +kernel
theorem dX2_takeToken_8 : decode cX2_takeToken 8 = .ok (.if_icmp .ge 30, 3) := by decide +kernel
theorem dX2_takeToken_11 : decode cX2_takeToken 11 = .ok (.aload_n 0, 1) := by decide +kernel
theorem dX2_takeToken_12 : decode cX2_takeToken 12 = .ok (.getfield 9, 3) := by decide +kernel
theorem dX2_takeToken_15 : decode cX2_takeToken 15 = .ok (.aload_n 0, 1) := by decide +kernel
theorem dX2_takeToken_16 : decode cX2_takeToken 16 = .ok (.getfield 27, 3) := by decide +kernel
theorem dX2_takeToken_19 : decode cX2_takeToken 19 = .ok (.baload, 1) := by decide +kernel
theorem dX2_takeToken_20 : decode cX2_takeToken 20 = .ok (.bipush 32, 2) := by decide +kernel
theorem dX2_takeToken_22 : decode cX2_takeToken 22 = .ok (.if_icmp .ne 16, 3) := by decide +kernel
theorem dX2_takeToken_25 : decode cX2_takeToken 25 = .ok (.aload_n 0, 1) := by decide +kernel
theorem dX2_takeToken_26 : decode cX2_takeToken 26 = .ok (.dup, 1) := by decide +kernel
theorem dX2_takeToken_27 : decode cX2_takeToken 27 = .ok (.getfield 27, 3) := by decide +kernel
theorem dX2_takeToken_30 : decode cX2_takeToken 30 = .ok (.iconst 1, 1) := by decide +kernel
theorem dX2_takeToken_31 : decode cX2_takeToken 31 = .ok (.iadd, 1) := by decide +kernel
theorem dX2_takeToken_32 : decode cX2_takeToken 32 = .ok (.putfield 27, 3) := by decide +kernel
theorem dX2_takeToken_35 : decode cX2_takeToken 35 = .ok (.goto (-35), 3) := by decide +kernel
theorem dX2_takeToken_38 : decode cX2_takeToken 38 = .ok (.aload_n 0, 1) := by decide +kernel
theorem dX2_takeToken_39 : decode cX2_takeToken 39 = .ok (.aload_n 0, 1) := by decide +kernel
theorem dX2_takeToken_40 : decode cX2_takeToken 40 = .ok (.getfield 27, 3) := by decide +kernel
theorem dX2_takeToken_43 : decode cX2_takeToken 43 = .ok (.putfield 44, 3) := by decide +kernel
theorem dX2_takeToken_46 : decode cX2_takeToken 46 = .ok (.aload_n 0, 1) := by decide +kernel
theorem dX2_takeToken_47 : decode cX2_takeToken 47 = .ok (.getfield 27, 3) := by decide +kernel
theorem dX2_takeToken_50 : decode cX2_takeToken 50 = .ok (.aload_n 0, 1) := by decide +kernel
theorem dX2_takeToken_51 : decode cX2_takeToken 51 = .ok (.getfield 41, 3) := by decide +kernel
theorem dX2_takeToken_54 : decode cX2_takeToken 54 = .ok (.if_icmp .lt 10, 3) := by decide +kernel
theorem dX2_takeToken_57 : decode cX2_takeToken 57 = .ok (.aload_n 0, 1) := by decide +kernel
theorem dX2_takeToken_58 : decode cX2_takeToken 58 = .ok (.iconst 0, 1) := by decide +kernel
theorem dX2_takeToken_59 : decode cX2_takeToken 59 = .ok (.putfield 34, 3) := by decide +kernel
theorem dX2_takeToken_62 : decode cX2_takeToken 62 = .ok (.iconst 1, 1) := by decide +kernel
theorem dX2_takeToken_63 : decode cX2_takeToken 63 = .ok (.ireturn, 1) := by decide +kernel
theorem dX2_takeToken_64 : decode cX2_takeToken 64 = .ok (.aload_n 0, 1) := by decide +kernel
theorem dX2_takeToken_65 : decode cX2_takeToken 65 = .ok (.aload_n 0, 1) := by decide +kernel
theorem dX2_takeToken_66 : decode cX2_takeToken 66 = .ok (.getfield 9, 3) := by decide +kernel
theorem dX2_takeToken_69 : decode cX2_takeToken 69 = .ok (.aload_n 0, 1) := by decide +kernel
theorem dX2_takeToken_70 : decode cX2_takeToken 70 = .ok (.getfield 27, 3) := by decide +kernel
theorem dX2_takeToken_73 : decode cX2_takeToken 73 = .ok (.baload, 1) := by decide +kernel
theorem dX2_takeToken_74 : decode cX2_takeToken 74 = .ok (.invokestatic 104, 3) := by decide +kernel
theorem dX2_takeToken_77 : decode cX2_takeToken 77 = .ok (.putfield 34, 3) := by decide +kernel
theorem dX2_takeToken_80 : decode cX2_takeToken 80 = .ok (.aload_n 0, 1) := by decide +kernel
theorem dX2_takeToken_81 : decode cX2_takeToken 81 = .ok (.dup, 1) := by decide +kernel
theorem dX2_takeToken_82 : decode cX2_takeToken 82 = .ok (.getfield 27, 3) := by decide +kernel
theorem dX2_takeToken_85 : decode cX2_takeToken 85 = .ok (.iconst 1, 1) := by decide +kernel
theorem dX2_takeToken_86 : decode cX2_takeToken 86 = .ok (.iadd, 1) := by decide +kernel
theorem dX2_takeToken_87 : decode cX2_takeToken 87 = .ok (.putfield 27, 3) := by decide +kernel
theorem dX2_takeToken_90 : decode cX2_takeToken 90 = .ok (.aload_n 0, 1) := by decide +kernel
theorem dX2_takeToken_91 : decode cX2_takeToken 91 = .ok (.getfield 34, 3) := by decide +kernel
theorem dX2_takeToken_94 : decode cX2_takeToken 94 = .ok (.iconst 1, 1) := by decide +kernel
theorem dX2_takeToken_95 : decode cX2_takeToken 95 = .ok (.if_icmp .eq 11, 3) := by decide +kernel
theorem dX2_takeToken_98 : decode cX2_takeToken 98 = .ok (.aload_n 0, 1) := by decide +kernel
theorem dX2_takeToken_99 : decode cX2_takeToken 99 = .ok (.getfield 34, 3) := by decide +kernel
theorem dX2_takeToken_102 : decode cX2_takeToken 102 = .ok (.iconst 2, 1) := by decide +kernel
theorem dX2_takeToken_103 : decode cX2_takeToken 103 = .ok (.if_icmp .ne 7, 3) := by decide +kernel
theorem dX2_takeToken_106 : decode cX2_takeToken 106 = .ok (.iconst 1, 1) := by decide +kernel
theorem dX2_takeToken_107 : decode cX2_takeToken 107 = .ok (.goto 4, 3) := by decide +kernel
theorem dX2_takeToken_110 : decode cX2_takeToken 110 = .ok (.iconst 0, 1) := by decide +kernel
theorem dX2_takeToken_111 : decode cX2_takeToken 111 = .ok (.istore_n 1, 1) := by decide +kernel
theorem dX2_takeToken_112 : decode cX2_takeToken 112 = .ok (.iload_n 1, 1) := by decide +kernel
theorem dX2_takeToken_113 : decode cX2_takeToken 113 = .ok (.ifCond .eq 46, 3) := by decide +kernel
theorem dX2_takeToken_116 : decode cX2_takeToken 116 = .ok (.aload_n 0, 1) := by decide +kernel
theorem dX2_takeToken_117 : decode cX2_takeToken 117 = .ok (.getfield 27, 3) := by decide +kernel
theorem dX2_takeToken_120 : decode cX2_takeToken 120 = .ok (.aload_n 0, 1) := by decide +kernel
theorem dX2_takeToken_121 : decode cX2_takeToken 121 = .ok (.getfield 41, 3) := by decide +kernel
theorem dX2_takeToken_124 : decode cX2_takeToken 124 = .ok (.if_icmp .ge 35, 3) := by decide +kernel
theorem dX2_takeToken_127 : decode cX2_takeToken 127 = .ok (.aload_n 0, 1) := by decide +kernel
theorem dX2_takeToken_128 : decode cX2_takeToken 128 = .ok (.getfield 9, 3) := by decide +kernel
theorem dX2_takeToken_131 : decode cX2_takeToken 131 = .ok (.aload_n 0, 1) := by decide +kernel
theorem dX2_takeToken_132 : decode cX2_takeToken 132 = .ok (.getfield 27, 3) := by decide +kernel
theorem dX2_takeToken_135 : decode cX2_takeToken 135 = .ok (.baload, 1) := by decide +kernel
theorem dX2_takeToken_136 : decode cX2_takeToken 136 = .ok (.invokestatic 104, 3) := by decide +kernel
theorem dX2_takeToken_139 : decode cX2_takeToken 139 = .ok (.aload_n 0, 1) := by decide +kernel
theorem dX2_takeToken_140 : decode cX2_takeToken 140 = .ok (.getfield 34, 3) := by decide +kernel
theorem dX2_takeToken_143 : decode cX2_takeToken 143 = .ok (.if_icmp .ne 16, 3) := by decide +kernel
theorem dX2_takeToken_146 : decode cX2_takeToken 146 = .ok (.aload_n 0, 1) := by decide +kernel
theorem dX2_takeToken_147 : decode cX2_takeToken 147 = .ok (.dup, 1) := by decide +kernel
theorem dX2_takeToken_148 : decode cX2_takeToken 148 = .ok (.getfield 27, 3) := by decide +kernel
theorem dX2_takeToken_151 : decode cX2_takeToken 151 = .ok (.iconst 1, 1) := by decide +kernel
theorem dX2_takeToken_152 : decode cX2_takeToken 152 = .ok (.iadd, 1) := by decide +kernel
theorem dX2_takeToken_153 : decode cX2_takeToken 153 = .ok (.putfield 27, 3) := by decide +kernel
theorem dX2_takeToken_156 : decode cX2_takeToken 156 = .ok (.goto (-44), 3) := by decide +kernel
theorem dX2_takeToken_159 : decode cX2_takeToken 159 = .ok (.aload_n 0, 1) := by decide +kernel
theorem dX2_takeToken_160 : decode cX2_takeToken 160 = .ok (.getfield 34, 3) := by decide +kernel
theorem dX2_takeToken_163 : decode cX2_takeToken 163 = .ok (.iconst 2, 1) := by decide +kernel
theorem dX2_takeToken_164 : decode cX2_takeToken 164 = .ok (.if_icmp .ne 20, 3) := by decide +kernel
theorem dX2_takeToken_167 : decode cX2_takeToken 167 = .ok (.aload_n 0, 1) := by decide +kernel
theorem dX2_takeToken_168 : decode cX2_takeToken 168 = .ok (.getfield 27, 3) := by decide +kernel
theorem dX2_takeToken_171 : decode cX2_takeToken 171 = .ok (.aload_n 0, 1) := by decide +kernel
theorem dX2_takeToken_172 : decode cX2_takeToken 172 = .ok (.getfield 44, 3) := by decide +kernel
theorem dX2_takeToken_175 : decode cX2_takeToken 175 = .ok (.isub, 1) := by decide +kernel
theorem dX2_takeToken_176 : decode cX2_takeToken 176 = .ok (.iconst 2, 1) := by decide +kernel
theorem dX2_takeToken_177 : decode cX2_takeToken 177 = .ok (.if_icmp .le 7, 3) := by decide +kernel
theorem dX2_takeToken_180 : decode cX2_takeToken 180 = .ok (.iconst 1, 1) := by decide +kernel
theorem dX2_takeToken_181 : decode cX2_takeToken 181 = .ok (.goto 4, 3) := by decide +kernel
theorem dX2_takeToken_184 : decode cX2_takeToken 184 = .ok (.iconst 0, 1) := by decide +kernel
theorem dX2_takeToken_185 : decode cX2_takeToken 185 = .ok (.istore_n 2, 1) := by decide +kernel
theorem dX2_takeToken_186 : decode cX2_takeToken 186 = .ok (.aload_n 0, 1) := by decide +kernel
theorem dX2_takeToken_187 : decode cX2_takeToken 187 = .ok (.getfield 34, 3) := by decide +kernel
theorem dX2_takeToken_190 : decode cX2_takeToken 190 = .ok (.iconst 4, 1) := by decide +kernel
theorem dX2_takeToken_191 : decode cX2_takeToken 191 = .ok (.if_icmp .eq 7, 3) := by decide +kernel
theorem dX2_takeToken_194 : decode cX2_takeToken 194 = .ok (.iload_n 2, 1) := by decide +kernel
theorem dX2_takeToken_195 : decode cX2_takeToken 195 = .ok (.ifCond .eq 11, 3) := by decide +kernel
theorem dX2_takeToken_198 : decode cX2_takeToken 198 = .ok (.aload_n 0, 1) := by decide +kernel
theorem dX2_takeToken_199 : decode cX2_takeToken 199 = .ok (.iconst 1, 1) := by decide +kernel
theorem dX2_takeToken_200 : decode cX2_takeToken 200 = .ok (.invokevirtual 66, 3) := by decide +kernel
theorem dX2_takeToken_203 : decode cX2_takeToken 203 = .ok (.ifCond .eq 7, 3) := by decide +kernel
theorem dX2_takeToken_206 : decode cX2_takeToken 206 = .ok (.iconst 1, 1) := by decide +kernel
theorem dX2_takeToken_207 : decode cX2_takeToken 207 = .ok (.goto 4, 3) := by decide +kernel
theorem dX2_takeToken_210 : decode cX2_takeToken 210 = .ok (.iconst 0, 1) := by decide +kernel
theorem dX2_takeToken_211 : decode cX2_takeToken 211 = .ok (.ireturn, 1) := by decide +kernel
theorem dX2_kindOf_0 : decode cX2_kindOf 0 = .ok (.iload_n 0, 1) := by decide +kernel
theorem dX2_kindOf_1 : decode cX2_kindOf 1 = .ok (.bipush 97, 2) := by decide +kernel
theorem dX2_kindOf_3 : decode cX2_kindOf 3 = .ok (.if_icmp .lt 11, 3) := by decide +kernel
theorem dX2_kindOf_6 : decode cX2_kindOf 6 = .ok (.iload_n 0, 1) := by decide +kernel
theorem dX2_kindOf_7 : decode cX2_kindOf 7 = .ok (.bipush 122, 2) := by decide +kernel
theorem dX2_kindOf_9 : decode cX2_kindOf 9 = .ok (.if_icmp .gt 5, 3) := by decide +kernel
theorem dX2_kindOf_12 : decode cX2_kindOf 12 = .ok (.iconst 1, 1) := by decide +kernel
theorem dX2_kindOf_13 : decode cX2_kindOf 13 = .ok (.ireturn, 1) := by decide +kernel
theorem dX2_kindOf_14 : decode cX2_kindOf 14 = .ok (.iload_n 0, 1) := by decide +kernel
theorem dX2_kindOf_15 : decode cX2_kindOf 15 = .ok (.bipush 48, 2) := by decide +kernel
theorem dX2_kindOf_17 : decode cX2_kindOf 17 = .ok (.if_icmp .lt 11, 3) := by decide +kernel
theorem dX2_kindOf_20 : decode cX2_kindOf 20 = .ok (.iload_n 0, 1) := by decide +kernel
theorem dX2_kindOf_21 : decode cX2_kindOf 21 = .ok (.bipush 57, 2) := by decide +kernel
theorem dX2_kindOf_23 : decode cX2_kindOf 23 = .ok (.if_icmp .gt 5, 3) := by decide +kernel
theorem dX2_kindOf_26 : decode cX2_kindOf 26 = .ok (.iconst 2, 1) := by decide +kernel
theorem dX2_kindOf_27 : decode cX2_kindOf 27 = .ok (.ireturn, 1) := by decide +kernel
theorem dX2_kindOf_28 : decode cX2_kindOf 28 = .ok (.iload_n 0, 1) := by decide +kernel
theorem dX2_kindOf_29 : decode cX2_kindOf 29 = .ok (.bipush 59, 2) := by decide +kernel
theorem dX2_kindOf_31 : decode cX2_kindOf 31 = .ok (.if_icmp .ne 7, 3) := by decide +kernel
theorem dX2_kindOf_34 : decode cX2_kindOf 34 = .ok (.iconst 3, 1) := by decide +kernel
theorem dX2_kindOf_35 : decode cX2_kindOf 35 = .ok (.goto 4, 3) := by decide +kernel
theorem dX2_kindOf_38 : decode cX2_kindOf 38 = .ok (.iconst 4, 1) := by decide +kernel
theorem dX2_kindOf_39 : decode cX2_kindOf 39 = .ok (.ireturn, 1) := by decide +kernel
theorem dX2_isWord_0 : decode cX2_isWord 0 = .ok (.aload_n 0, 1) := by decide +kernel
theorem dX2_isWord_1 : decode cX2_isWord 1 = .ok (.getfield 34, 3) := by decide +kernel
theorem dX2_isWord_4 : decode cX2_isWord 4 = .ok (.iconst 1, 1) := by decide +kernel
theorem dX2_isWord_5 : decode cX2_isWord 5 = .ok (.if_icmp .ne 19, 3) := by decide +kernel
theorem dX2_isWord_8 : decode cX2_isWord 8 = .ok (.aload_n 0, 1) := by decide +kernel
theorem dX2_isWord_9 : decode cX2_isWord 9 = .ok (.getfield 27, 3) := by decide +kernel
theorem dX2_isWord_12 : decode cX2_isWord 12 = .ok (.aload_n 0, 1) := by decide +kernel
theorem dX2_isWord_13 : decode cX2_isWord 13 = .ok (.getfield 44, 3) := by decide +kernel
theorem dX2_isWord_16 : decode cX2_isWord 16 = .ok (.isub, 1) := by decide +kernel
theorem dX2_isWord_17 : decode cX2_isWord 17 = .ok (.aload_n 1, 1) := by decide +kernel
theorem dX2_isWord_18 : decode cX2_isWord 18 = .ok (.invokevirtual 108, 3) := by decide +kernel
theorem dX2_isWord_21 : decode cX2_isWord 21 = .ok (.if_icmp .eq 5, 3) := by decide +kernel
theorem dX2_isWord_24 : decode cX2_isWord 24 = .ok (.iconst 0, 1) := by decide +kernel
theorem dX2_isWord_25 : decode cX2_isWord 25 = .ok (.ireturn, 1) := by decide +kernel
theorem dX2_isWord_26 : decode cX2_isWord 26 = .ok (.iconst 0, 1) := by decide +kernel
theorem dX2_isWord_27 : decode cX2_isWord 27 = .ok (.istore_n 2, 1) := by decide +kernel
theorem dX2_isWord_28 : decode cX2_isWord 28 = .ok (.iload_n 2, 1) := by decide +kernel
theorem dX2_isWord_29 : decode cX2_isWord 29 = .ok (.aload_n 1, 1) := by decide +kernel
theorem dX2_isWord_30 : decode cX2_isWord 30 = .ok (.invokevirtual 108, 3) := by decide +kernel
theorem dX2_isWord_33 : decode cX2_isWord 33 = .ok (.if_icmp .ge 30, 3) := by decide +kernel
theorem dX2_isWord_36 : decode cX2_isWord 36 = .ok (.aload_n 0, 1) := by decide +kernel
theorem dX2_isWord_37 : decode cX2_isWord 37 = .ok (.getfield 9, 3) := by decide +kernel
theorem dX2_isWord_40 : decode cX2_isWord 40 = .ok (.aload_n 0, 1) := by decide +kernel
theorem dX2_isWord_41 : decode cX2_isWord 41 = .ok (.getfield 44, 3) := by decide +kernel
theorem dX2_isWord_44 : decode cX2_isWord 44 = .ok (.iload_n 2, 1) := by decide +kernel
theorem dX2_isWord_45 : decode cX2_isWord 45 = .ok (.iadd, 1) := by decide +kernel
theorem dX2_isWord_46 : decode cX2_isWord 46 = .ok (.baload, 1) := by decide +kernel
theorem dX2_isWord_47 : decode cX2_isWord 47 = .ok (.aload_n 1, 1) := by decide +kernel
theorem dX2_isWord_48 : decode cX2_isWord 48 = .ok (.iload_n 2, 1) := by decide +kernel
theorem dX2_isWord_49 : decode cX2_isWord 49 = .ok (.invokevirtual 114, 3) := by decide +kernel
theorem dX2_isWord_52 : decode cX2_isWord 52 = .ok (.if_icmp .eq 5, 3) := by decide +kernel
theorem dX2_isWord_55 : decode cX2_isWord 55 = .ok (.iconst 0, 1) := by decide +kernel
theorem dX2_isWord_56 : decode cX2_isWord 56 = .ok (.ireturn, 1) := by decide +kernel
theorem dX2_isWord_57 : decode cX2_isWord 57 = .ok (.iinc 2 1, 3) := by decide +kernel
theorem dX2_isWord_60 : decode cX2_isWord 60 = .ok (.goto (-32), 3) := by decide +kernel
theorem dX2_isWord_63 : decode cX2_isWord 63 = .ok (.iconst 1, 1) := by decide +kernel
theorem dX2_isWord_64 : decode cX2_isWord 64 = .ok (.ireturn, 1) := by decide +kernel
