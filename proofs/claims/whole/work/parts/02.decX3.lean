theorem dX3_init_0 : decode cX3_init 0 = .ok (.aload_n 0, 1) := by decide +kernel
theorem dX3_init_1 : decode cX3_init 1 = .ok (.invokespecial 3, 3) := by decide +kernel
theorem dX3_init_4 : decode cX3_init 4 = .ok (.aload_n 0, 1) := by decide +kernel
theorem dX3_init_5 : decode cX3_init 5 = .ok (.iconst (-1), 1) := by decide +kernel
theorem dX3_init_6 : decode cX3_init 6 = .ok (.putfield 9, 3) := by decide +kernel
theorem dX3_init_9 : decode cX3_init 9 = .ok (.aload_n 0, 1) := by decide +kernel
theorem dX3_init_10 : decode cX3_init 10 = .ok (.bipush 40, 2) := by decide +kernel
theorem dX3_init_12 : decode cX3_init 12 = .ok (.newarray .int, 2) := by decide +kernel
theorem dX3_init_14 : decode cX3_init 14 = .ok (.putfield 15, 3) := by decide +kernel
theorem dX3_init_17 : decode cX3_init 17 = .ok (.return_, 1) := by decide +kernel
theorem dX3_renew_0 : decode cX3_renew 0 = .ok (.aload_n 0, 1) := by decide +kernel
theorem dX3_renew_1 : decode cX3_renew 1 = .ok (.iload_n 1, 1) := by decide +kernel
theorem dX3_renew_2 : decode cX3_renew 2 = .ok (.putfield 19, 3) := by decide +kernel
theorem dX3_renew_5 : decode cX3_renew 5 = .ok (.aload_n 0, 1) := by decide +kernel
theorem dX3_renew_6 : decode cX3_renew 6 = .ok (.iload_n 2, 1) := by decide +kernel
theorem dX3_renew_7 : decode cX3_renew 7 = .ok (.putfield 9, 3) := by decide +kernel
theorem dX3_renew_10 : decode cX3_renew 10 = .ok (.aload_n 0, 1) := by decide +kernel
theorem dX3_renew_11 : decode cX3_renew 11 = .ok (.getfield 15, 3) := by decide +kernel
theorem dX3_renew_14 : decode cX3_renew 14 = .ok (.iconst 0, 1) := by decide +kernel
theorem dX3_renew_15 : decode cX3_renew 15 = .ok (.invokestatic 22, 3) := by decide +kernel
theorem dX3_renew_18 : decode cX3_renew 18 = .ok (.return_, 1) := by decide +kernel
theorem dX3_faultOfCell_0 : decode cX3_faultOfCell 0 = .ok (.aload_n 0, 1) := by decide +kernel
theorem dX3_faultOfCell_1 : decode cX3_faultOfCell 1 = .ok (.getfield 9, 3) := by decide +kernel
theorem dX3_faultOfCell_4 : decode cX3_faultOfCell 4 = .ok (.ifCond .ge 5, 3) := by decide +kernel
theorem dX3_faultOfCell_7 : decode cX3_faultOfCell 7 = .ok (.iconst 1, 1) := by decide +kernel
theorem dX3_faultOfCell_8 : decode cX3_faultOfCell 8 = .ok (.ireturn, 1) := by decide +kernel
theorem dX3_faultOfCell_9 : decode cX3_faultOfCell 9 = .ok (.iload_n 1, 1) := by decide +kernel
theorem dX3_faultOfCell_10 : decode cX3_faultOfCell 10 = .ok (.ifCond .lt 11, 3) := by decide +kernel
theorem dX3_faultOfCell_13 : decode cX3_faultOfCell 13 = .ok (.iload_n 1, 1) := by decide +kernel
theorem dX3_faultOfCell_14 : decode cX3_faultOfCell 14 = .ok (.aload_n 0, 1) := by decide +kernel
theorem dX3_faultOfCell_15 : decode cX3_faultOfCell 15 = .ok (.getfield 9, 3) := by decide +kernel
theorem dX3_faultOfCell_18 : decode cX3_faultOfCell 18 = .ok (.if_icmp .lt 7, 3) := by decide +kernel
theorem dX3_faultOfCell_21 : decode cX3_faultOfCell 21 = .ok (.iconst 2, 1) := by decide +kernel
theorem dX3_faultOfCell_22 : decode cX3_faultOfCell 22 = .ok (.goto 4, 3) := by decide +kernel
theorem dX3_faultOfCell_25 : decode cX3_faultOfCell 25 = .ok (.iconst 0, 1) := by decide +kernel
theorem dX3_faultOfCell_26 : decode cX3_faultOfCell 26 = .ok (.ireturn, 1) := by decide +kernel
theorem dX3_faultOfThree_0 : decode cX3_faultOfThree 0 = .ok (.aload_n 0, 1) := by decide +kernel
theorem dX3_faultOfThree_1 : decode cX3_faultOfThree 1 = .ok (.getfield 9, 3) := by decide +kernel
theorem dX3_faultOfThree_4 : decode cX3_faultOfThree 4 = .ok (.ifCond .ge 5, 3) := by decide +kernel
theorem dX3_faultOfThree_7 : decode cX3_faultOfThree 7 = .ok (.iconst 1, 1) := by decide +kernel
theorem dX3_faultOfThree_8 : decode cX3_faultOfThree 8 = .ok (.ireturn, 1) := by decide +kernel
theorem dX3_faultOfThree_9 : decode cX3_faultOfThree 9 = .ok (.iload_n 1, 1) := by decide +kernel
theorem dX3_faultOfThree_10 : decode cX3_faultOfThree 10 = .ok (.aload_n 0, 1) := by decide +kernel
theorem dX3_faultOfThree_11 : decode cX3_faultOfThree 11 = .ok (.getfield 19, 3) := by decide +kernel
theorem dX3_faultOfThree_14 : decode cX3_faultOfThree 14 = .ok (.if_icmp .eq 5, 3) := by decide +kernel
theorem dX3_faultOfThree_17 : decode cX3_faultOfThree 17 = .ok (.iconst 3, 1) := by decide +kernel
theorem dX3_faultOfThree_18 : decode cX3_faultOfThree 18 = .ok (.ireturn, 1) := by decide +kernel
theorem dX3_faultOfThree_19 : decode cX3_faultOfThree 19 = .ok (.iload_n 2, 1) := by decide +kernel
theorem dX3_faultOfThree_20 : decode cX3_faultOfThree 20 = .ok (.ifCond .lt 13, 3) := by decide +kernel
theorem dX3_faultOfThree_23 : decode cX3_faultOfThree 23 = .ok (.iload_n 2, 1) := by decide +kernel
theorem dX3_faultOfThree_24 : decode cX3_faultOfThree 24 = .ok (.aload_n 0, 1) := by decide +kernel
theorem dX3_faultOfThree_25 : decode cX3_faultOfThree 25 = .ok (.getfield 9, 3) := by decide +kernel
theorem dX3_faultOfThree_28 : decode cX3_faultOfThree 28 = .ok (.iconst 3, 1) := by decide +kernel
theorem dX3_faultOfThree_29 : decode cX3_faultOfThree 29 = .ok (.isub, 1) := by decide +kernel
theorem dX3_faultOfThree_30 : decode cX3_faultOfThree 30 = .ok (.if_icmp .le 7, 3) := by decide +kernel
theorem dX3_faultOfThree_33 : decode cX3_faultOfThree 33 = .ok (.iconst 2, 1) := by decide +kernel
theorem dX3_faultOfThree_34 : decode cX3_faultOfThree 34 = .ok (.goto 4, 3) := by decide +kernel
theorem dX3_faultOfThree_37 : decode cX3_faultOfThree 37 = .ok (.iconst 0, 1) := by decide +kernel
theorem dX3_faultOfThree_38 : decode cX3_faultOfThree 38 = .ok (.ireturn, 1) := by decide +kernel
theorem dX3_put_0 : decode cX3_put 0 = .ok (.aload_n 0, 1) := by decide +kernel
theorem dX3_put_1 : decode cX3_put 1 = .ok (.getfield 19, 3) := by decide +kernel
theorem dX3_put_4 : decode cX3_put 4 = .ok (.lookupswitch 50 #[(0, 28), (1, 39)], 28) := by decide +kernel
theorem dX3_put_32 : decode cX3_put 32 = .ok (.aload_n 0, 1) := by decide +kernel
theorem dX3_put_33 : decode cX3_put 33 = .ok (.getfield 15, 3) := by decide +kernel
theorem dX3_put_36 : decode cX3_put 36 = .ok (.iload_n 1, 1) := by decide +kernel
theorem dX3_put_37 : decode cX3_put 37 = .ok (.iload_n 2, 1) := by decide +kernel
theorem dX3_put_38 : decode cX3_put 38 = .ok (.i2b, 1) := by decide +kernel
theorem dX3_put_39 : decode cX3_put 39 = .ok (.iastore, 1) := by decide +kernel
theorem dX3_put_40 : decode cX3_put 40 = .ok (.goto 21, 3) := by decide +kernel
theorem dX3_put_43 : decode cX3_put 43 = .ok (.aload_n 0, 1) := by decide +kernel
theorem dX3_put_44 : decode cX3_put 44 = .ok (.getfield 15, 3) := by decide +kernel
theorem dX3_put_47 : decode cX3_put 47 = .ok (.iload_n 1, 1) := by decide +kernel
theorem dX3_put_48 : decode cX3_put 48 = .ok (.iload_n 2, 1) := by decide +kernel
theorem dX3_put_49 : decode cX3_put 49 = .ok (.i2s, 1) := by decide +kernel
theorem dX3_put_50 : decode cX3_put 50 = .ok (.iastore, 1) := by decide +kernel
theorem dX3_put_51 : decode cX3_put 51 = .ok (.goto 10, 3) := by decide +kernel
theorem dX3_put_54 : decode cX3_put 54 = .ok (.aload_n 0, 1) := by decide +kernel
theorem dX3_put_55 : decode cX3_put 55 = .ok (.getfield 15, 3) := by decide +kernel
theorem dX3_put_58 : decode cX3_put 58 = .ok (.iload_n 1, 1) := by decide +kernel
theorem dX3_put_59 : decode cX3_put 59 = .ok (.iload_n 2, 1) := by decide +kernel
theorem dX3_put_60 : decode cX3_put 60 = .ok (.iastore, 1) := by decide +kernel
theorem dX3_put_61 : decode cX3_put 61 = .ok (.return_, 1) := by decide +kernel
