theorem dX1_init_0 : decode cX1_init 0 = .ok (.aload_n 0, 1) := by decide +kernel
theorem dX1_init_1 : decode cX1_init 1 = .ok (.invokespecial 3, 3) := by decide +kernel
theorem dX1_init_4 : decode cX1_init 4 = .ok (.aload_n 0, 1) := by decide +kernel
theorem dX1_init_5 : decode cX1_init 5 = .ok (.bipush 96, 2) := by decide +kernel
theorem dX1_init_7 : decode cX1_init 7 = .ok (.newarray .boolean, 2) := by decide +kernel
theorem dX1_init_9 : decode cX1_init 9 = .ok (.putfield 11, 3) := by decide +kernel
theorem dX1_init_12 : decode cX1_init 12 = .ok (.aload_n 0, 1) := by decide +kernel
theorem dX1_init_13 : decode cX1_init 13 = .ok (.sipush 1296, 3) := by decide +kernel
theorem dX1_init_16 : decode cX1_init 16 = .ok (.newarray .int, 2) := by decide +kernel
theorem dX1_init_18 : decode cX1_init 18 = .ok (.putfield 15, 3) := by decide +kernel
theorem dX1_init_21 : decode cX1_init 21 = .ok (.aload_n 0, 1) := by decide +kernel
theorem dX1_init_22 : decode cX1_init 22 = .ok (.sipush 1296, 3) := by decide +kernel
theorem dX1_init_25 : decode cX1_init 25 = .ok (.newarray .byte, 2) := by decide +kernel
theorem dX1_init_27 : decode cX1_init 27 = .ok (.putfield 19, 3) := by decide +kernel
theorem dX1_init_30 : decode cX1_init 30 = .ok (.aload_n 0, 1) := by decide +kernel
theorem dX1_init_31 : decode cX1_init 31 = .ok (.iconst 4, 1) := by decide +kernel
theorem dX1_init_32 : decode cX1_init 32 = .ok (.newarray .int, 2) := by decide +kernel
theorem dX1_init_34 : decode cX1_init 34 = .ok (.putfield 23, 3) := by decide +kernel
theorem dX1_init_37 : decode cX1_init 37 = .ok (.aload_n 0, 1) := by decide +kernel
theorem dX1_init_38 : decode cX1_init 38 = .ok (.bipush 6, 2) := by decide +kernel
theorem dX1_init_40 : decode cX1_init 40 = .ok (.newarray .int, 2) := by decide +kernel
theorem dX1_init_42 : decode cX1_init 42 = .ok (.putfield 26, 3) := by decide +kernel
theorem dX1_init_45 : decode cX1_init 45 = .ok (.aload_n 0, 1) := by decide +kernel
theorem dX1_init_46 : decode cX1_init 46 = .ok (.iconst 4, 1) := by decide +kernel
theorem dX1_init_47 : decode cX1_init 47 = .ok (.newarray .int, 2) := by decide +kernel
theorem dX1_init_49 : decode cX1_init 49 = .ok (.putfield 29, 3) := by decide +kernel
theorem dX1_init_52 : decode cX1_init 52 = .ok (.return_, 1) := by decide +kernel
theorem dX1_forget_0 : decode cX1_forget 0 = .ok (.aload_n 0, 1) := by decide +kernel
theorem dX1_forget_1 : decode cX1_forget 1 = .ok (.iconst 0, 1) := by decide +kernel
theorem dX1_forget_2 : decode cX1_forget 2 = .ok (.putfield 32, 3) := by decide +kernel
theorem dX1_forget_5 : decode cX1_forget 5 = .ok (.aload_n 0, 1) := by decide +kernel
theorem dX1_forget_6 : decode cX1_forget 6 = .ok (.iconst 0, 1) := by decide +kernel
theorem dX1_forget_7 : decode cX1_forget 7 = .ok (.putfield 36, 3) := by decide +kernel
theorem dX1_forget_10 : decode cX1_forget 10 = .ok (.return_, 1) := by decide +kernel
theorem dX1_learnRooms_0 : decode cX1_learnRooms 0 = .ok (.aload_n 0, 1) := by decide +kernel
theorem dX1_learnRooms_1 : decode cX1_learnRooms 1 = .ok (.getfield 32, 3) := by decide +kernel
theorem dX1_learnRooms_4 : decode cX1_learnRooms 4 = .ok (.ifCond .eq 4, 3) := by decide +kernel
theorem dX1_learnRooms_7 : decode cX1_learnRooms 7 = .ok (.return_, 1) := by decide +kernel
theorem dX1_learnRooms_8 : decode cX1_learnRooms 8 = .ok (.iconst 0, 1) := by decide +kernel
theorem dX1_learnRooms_9 : decode cX1_learnRooms 9 = .ok (.istore_n 2, 1) := by decide +kernel
theorem dX1_learnRooms_10 : decode cX1_learnRooms 10 = .ok (.iload_n 2, 1) := by decide +kernel
theorem dX1_learnRooms_11 : decode cX1_learnRooms 11 = .ok (.aload_n 1, 1) := by decide +kernel
theorem dX1_learnRooms_12 : decode cX1_learnRooms 12 = .ok (.getfield 39, 3) := by decide +kernel
theorem dX1_learnRooms_15 : decode cX1_learnRooms 15 = .ok (.if_icmp .ge 44, 3) := by decide +kernel
theorem dX1_learnRooms_18 : decode cX1_learnRooms 18 = .ok (.iconst 0, 1) := by decide +kernel
theorem dX1_learnRooms_19 : decode cX1_learnRooms 19 = .ok (.istore_n 3, 1) := by decide +kernel
theorem dX1_learnRooms_20 : decode cX1_learnRooms 20 = .ok (.iload_n 3, 1) := by decide +kernel
theorem dX1_learnRooms_21 : decode cX1_learnRooms 21 = .ok (.iconst 1, 1) := by decide +kernel
theorem dX1_learnRooms_22 : decode cX1_learnRooms 22 = .ok (.aload_n 1, 1) := by decide +kernel
theorem dX1_learnRooms_23 : decode cX1_learnRooms 23 = .ok (.getfield 45, 3) := by decide +kernel
theorem dX1_learnRooms_26 : decode cX1_learnRooms 26 = .ok (.ishl, 1) := by decide +kernel
theorem dX1_learnRooms_27 : decode cX1_learnRooms 27 = .ok (.if_icmp .ge 26, 3) := by decide +kernel
theorem dX1_learnRooms_30 : decode cX1_learnRooms 30 = .ok (.aload_n 0, 1) := by decide +kernel
theorem dX1_learnRooms_31 : decode cX1_learnRooms 31 = .ok (.getfield 11, 3) := by decide +kernel
theorem dX1_learnRooms_34 : decode cX1_learnRooms 34 = .ok (.iload_n 2, 1) := by decide +kernel
theorem dX1_learnRooms_35 : decode cX1_learnRooms 35 = .ok (.bipush 16, 2) := by decide +kernel
theorem dX1_learnRooms_37 : decode cX1_learnRooms 37 = .ok (.imul, 1) := by decide +kernel
theorem dX1_learnRooms_38 : decode cX1_learnRooms 38 = .ok (.iload_n 3, 1) := by decide +kernel
theorem dX1_learnRooms_39 : decode cX1_learnRooms 39 = .ok (.iadd, 1) := by decide +kernel
theorem dX1_learnRooms_40 : decode cX1_learnRooms 40 = .ok (.aload_n 1, 1) := by decide +kernel
theorem dX1_learnRooms_41 : decode cX1_learnRooms 41 = .ok (.iload_n 2, 1) := by decide +kernel
theorem dX1_learnRooms_42 : decode cX1_learnRooms 42 = .ok (.iload_n 3, 1) := by decide +kernel
theorem dX1_learnRooms_43 : decode cX1_learnRooms 43 = .ok (.invokestatic 48, 3) := by decide +kernel
theorem dX1_learnRooms_46 : decode cX1_learnRooms 46 = .ok (.bastore, 1) := by decide +kernel
theorem dX1_learnRooms_47 : decode cX1_learnRooms 47 = .ok (.iinc 3 1, 3) := by decide +kernel
theorem dX1_learnRooms_50 : decode cX1_learnRooms 50 = .ok (.goto (-30), 3) := by decide +kernel
theorem dX1_learnRooms_53 : decode cX1_learnRooms 53 = .ok (.iinc 2 1, 3) := by decide +kernel
theorem dX1_learnRooms_56 : decode cX1_learnRooms 56 = .ok (.goto (-46), 3) := by decide +kernel
theorem dX1_learnRooms_59 : decode cX1_learnRooms 59 = .ok (.aload_n 0, 1) := by decide +kernel
theorem dX1_learnRooms_60 : decode cX1_learnRooms 60 = .ok (.iconst 1, 1) := by decide +kernel
theorem dX1_learnRooms_61 : decode cX1_learnRooms 61 = .ok (.putfield 32, 3) := by decide +kernel
theorem dX1_learnRooms_64 : decode cX1_learnRooms 64 = .ok (.return_, 1) := by decide +kernel
theorem dX1_fits_0 : decode cX1_fits 0 = .ok (.iconst 0, 1) := by decide +kernel
theorem dX1_fits_1 : decode cX1_fits 1 = .ok (.istore_n 3, 1) := by decide +kernel
theorem dX1_fits_2 : decode cX1_fits 2 = .ok (.iload_n 3, 1) := by decide +kernel
theorem dX1_fits_3 : decode cX1_fits 3 = .ok (.aload_n 0, 1) := by decide +kernel
theorem dX1_fits_4 : decode cX1_fits 4 = .ok (.getfield 45, 3) := by decide +kernel
theorem dX1_fits_7 : decode cX1_fits 7 = .ok (.if_icmp .ge 45, 3) := by decide +kernel
theorem dX1_fits_10 : decode cX1_fits 10 = .ok (.iload_n 2, 1) := by decide +kernel
theorem dX1_fits_11 : decode cX1_fits 11 = .ok (.iload_n 3, 1) := by decide +kernel
theorem dX1_fits_12 : decode cX1_fits 12 = .ok (.ishr, 1) := by decide +kernel
theorem dX1_fits_13 : decode cX1_fits 13 = .ok (.iconst 1, 1) := by decide +kernel
theorem dX1_fits_14 : decode cX1_fits 14 = .ok (.iand, 1) := by decide +kernel
theorem dX1_fits_15 : decode cX1_fits 15 = .ok (.iconst 1, 1) := by decide +kernel
theorem dX1_fits_16 : decode cX1_fits 16 = .ok (.if_icmp .ne 30, 3) := by decide +kernel
theorem dX1_fits_19 : decode cX1_fits 19 = .ok (.aload_n 0, 1) := by decide +kernel
theorem dX1_fits_20 : decode cX1_fits 20 = .ok (.iload_n 1, 1) := by decide +kernel
theorem dX1_fits_21 : decode cX1_fits 21 = .ok (.aload_n 0, 1) := by decide +kernel
theorem dX1_fits_22 : decode cX1_fits 22 = .ok (.getfield 52, 3) := by decide +kernel
theorem dX1_fits_25 : decode cX1_fits 25 = .ok (.iload_n 3, 1) := by decide +kernel
theorem dX1_fits_26 : decode cX1_fits 26 = .ok (.iaload, 1) := by decide +kernel
theorem dX1_fits_27 : decode cX1_fits 27 = .ok (.invokestatic 55, 3) := by decide +kernel
theorem dX1_fits_30 : decode cX1_fits 30 = .ok (.aload_n 0, 1) := by decide +kernel
theorem dX1_fits_31 : decode cX1_fits 31 = .ok (.iload_n 2, 1) := by decide +kernel
theorem dX1_fits_32 : decode cX1_fits 32 = .ok (.aload_n 0, 1) := by decide +kernel
theorem dX1_fits_33 : decode cX1_fits 33 = .ok (.getfield 52, 3) := by decide +kernel
theorem dX1_fits_36 : decode cX1_fits 36 = .ok (.iload_n 3, 1) := by decide +kernel
theorem dX1_fits_37 : decode cX1_fits 37 = .ok (.iaload, 1) := by decide +kernel
theorem dX1_fits_38 : decode cX1_fits 38 = .ok (.invokestatic 59, 3) := by decide +kernel
theorem dX1_fits_41 : decode cX1_fits 41 = .ok (.if_icmp .ge 5, 3) := by decide +kernel
theorem dX1_fits_44 : decode cX1_fits 44 = .ok (.iconst 0, 1) := by decide +kernel
theorem dX1_fits_45 : decode cX1_fits 45 = .ok (.ireturn, 1) := by decide +kernel
theorem dX1_fits_46 : decode cX1_fits 46 = .ok (.iinc 3 1, 3) := by decide +kernel
theorem dX1_fits_49 : decode cX1_fits 49 = .ok (.goto (-47), 3) := by decide +kernel
theorem dX1_fits_52 : decode cX1_fits 52 = .ok (.iconst 1, 1) := by decide +kernel
theorem dX1_fits_53 : decode cX1_fits 53 = .ok (.ireturn, 1) := by decide +kernel
theorem dX1_tracksFor_0 : decode cX1_tracksFor 0 = .ok (.iconst 0, 1) := by decide +kernel
theorem dX1_tracksFor_1 : decode cX1_tracksFor 1 = .ok (.istore_n 3, 1) := by decide +kernel
theorem dX1_tracksFor_2 : decode cX1_tracksFor 2 = .ok (.iconst 0, 1) := by decide +kernel
theorem dX1_tracksFor_3 : decode cX1_tracksFor 3 = .ok (.istore 4, 2) := by decide +kernel
theorem dX1_tracksFor_5 : decode cX1_tracksFor 5 = .ok (.iload 4, 2) := by decide +kernel
theorem dX1_tracksFor_7 : decode cX1_tracksFor 7 = .ok (.aload_n 0, 1) := by decide +kernel
theorem dX1_tracksFor_8 : decode cX1_tracksFor 8 = .ok (.getfield 62, 3) := by decide +kernel
theorem dX1_tracksFor_11 : decode cX1_tracksFor 11 = .ok (.iload_n 1, 1) := by decide +kernel
theorem dX1_tracksFor_12 : decode cX1_tracksFor 12 = .ok (.iaload, 1) := by decide +kernel
theorem dX1_tracksFor_13 : decode cX1_tracksFor 13 = .ok (.if_icmp .ge 32, 3) := by decide +kernel
theorem dX1_tracksFor_16 : decode cX1_tracksFor 16 = .ok (.iload_n 3, 1) := by decide +kernel
theorem dX1_tracksFor_17 : decode cX1_tracksFor 17 = .ok (.aload_n 0, 1) := by decide +kernel
theorem dX1_tracksFor_18 : decode cX1_tracksFor 18 = .ok (.getfield 65, 3) := by decide +kernel
theorem dX1_tracksFor_21 : decode cX1_tracksFor 21 = .ok (.iload_n 1, 1) := by decide +kernel
theorem dX1_tracksFor_22 : decode cX1_tracksFor 22 = .ok (.iconst 3, 1) := by decide +kernel
theorem dX1_tracksFor_23 : decode cX1_tracksFor 23 = .ok (.imul, 1) := by decide +kernel
theorem dX1_tracksFor_24 : decode cX1_tracksFor 24 = .ok (.iload 4, 2) := by decide +kernel
theorem dX1_tracksFor_26 : decode cX1_tracksFor 26 = .ok (.iadd, 1) := by decide +kernel
theorem dX1_tracksFor_27 : decode cX1_tracksFor 27 = .ok (.iaload, 1) := by decide +kernel
theorem dX1_tracksFor_28 : decode cX1_tracksFor 28 = .ok (.iload_n 2, 1) := by decide +kernel
theorem dX1_tracksFor_29 : decode cX1_tracksFor 29 = .ok (.if_icmp .lt 7, 3) := by decide +kernel
theorem dX1_tracksFor_32 : decode cX1_tracksFor 32 = .ok (.iconst 1, 1) := by decide +kernel
theorem dX1_tracksFor_33 : decode cX1_tracksFor 33 = .ok (.goto 4, 3) := by decide +kernel
theorem dX1_tracksFor_36 : decode cX1_tracksFor 36 = .ok (.iconst 0, 1) := by decide +kernel
theorem dX1_tracksFor_37 : decode cX1_tracksFor 37 = .ok (.iadd, 1) := by decide +kernel
theorem dX1_tracksFor_38 : decode cX1_tracksFor 38 = .ok (.istore_n 3, 1) := by decide +kernel
theorem dX1_tracksFor_39 : decode cX1_tracksFor 39 = .ok (.iinc 4 1, 3) := by decide +kernel
theorem dX1_tracksFor_42 : decode cX1_tracksFor 42 = .ok (.goto (-37), 3) := by decide +kernel
theorem dX1_tracksFor_45 : decode cX1_tracksFor 45 = .ok (.iload_n 3, 1) := by decide +kernel
theorem dX1_tracksFor_46 : decode cX1_tracksFor 46 = .ok (.ireturn, 1) := by decide +kernel
theorem dX1_trainsOf_0 : decode cX1_trainsOf 0 = .ok (.iconst 0, 1) := by decide +kernel
theorem dX1_trainsOf_1 : decode cX1_trainsOf 1 = .ok (.istore_n 3, 1) := by decide +kernel
theorem dX1_trainsOf_2 : decode cX1_trainsOf 2 = .ok (.iconst 0, 1) := by decide +kernel
theorem dX1_trainsOf_3 : decode cX1_trainsOf 3 = .ok (.istore 4, 2) := by decide +kernel
theorem dX1_trainsOf_5 : decode cX1_trainsOf 5 = .ok (.iload 4, 2) := by decide +kernel
theorem dX1_trainsOf_7 : decode cX1_trainsOf 7 = .ok (.aload_n 0, 1) := by decide +kernel
theorem dX1_trainsOf_8 : decode cX1_trainsOf 8 = .ok (.getfield 45, 3) := by decide +kernel
theorem dX1_trainsOf_11 : decode cX1_trainsOf 11 = .ok (.if_icmp .ge 38, 3) := by decide +kernel
theorem dX1_trainsOf_14 : decode cX1_trainsOf 14 = .ok (.iload_n 3, 1) := by decide +kernel
theorem dX1_trainsOf_15 : decode cX1_trainsOf 15 = .ok (.iload_n 1, 1) := by decide +kernel
theorem dX1_trainsOf_16 : decode cX1_trainsOf 16 = .ok (.iload 4, 2) := by decide +kernel
theorem dX1_trainsOf_18 : decode cX1_trainsOf 18 = .ok (.ishr, 1) := by decide +kernel
theorem dX1_trainsOf_19 : decode cX1_trainsOf 19 = .ok (.iconst 1, 1) := by decide +kernel
theorem dX1_trainsOf_20 : decode cX1_trainsOf 20 = .ok (.iand, 1) := by decide +kernel
theorem dX1_trainsOf_21 : decode cX1_trainsOf 21 = .ok (.iconst 1, 1) := by decide +kernel
theorem dX1_trainsOf_22 : decode cX1_trainsOf 22 = .ok (.if_icmp .ne 18, 3) := by decide +kernel
theorem dX1_trainsOf_25 : decode cX1_trainsOf 25 = .ok (.aload_n 0, 1) := by decide +kernel
theorem dX1_trainsOf_26 : decode cX1_trainsOf 26 = .ok (.getfield 52, 3) := by decide +kernel
theorem dX1_trainsOf_29 : decode cX1_trainsOf 29 = .ok (.iload 4, 2) := by decide +kernel
theorem dX1_trainsOf_31 : decode cX1_trainsOf 31 = .ok (.iaload, 1) := by decide +kernel
theorem dX1_trainsOf_32 : decode cX1_trainsOf 32 = .ok (.iload_n 2, 1) := by decide +kernel
theorem dX1_trainsOf_33 : decode cX1_trainsOf 33 = .ok (.if_icmp .lt 7, 3) := by decide +kernel
theorem dX1_trainsOf_36 : decode cX1_trainsOf 36 = .ok (.iconst 1, 1) := by decide +kernel
theorem dX1_trainsOf_37 : decode cX1_trainsOf 37 = .ok (.goto 4, 3) := by decide +kernel
theorem dX1_trainsOf_40 : decode cX1_trainsOf 40 = .ok (.iconst 0, 1) := by decide +kernel
theorem dX1_trainsOf_41 : decode cX1_trainsOf 41 = .ok (.iadd, 1) := by decide +kernel
theorem dX1_trainsOf_42 : decode cX1_trainsOf 42 = .ok (.istore_n 3, 1) := by decide +kernel
theorem dX1_trainsOf_43 : decode cX1_trainsOf 43 = .ok (.iinc 4 1, 3) := by decide +kernel
theorem dX1_trainsOf_46 : decode cX1_trainsOf 46 = .ok (.goto (-41), 3) := by decide +kernel
theorem dX1_trainsOf_49 : decode cX1_trainsOf 49 = .ok (.iload_n 3, 1) := by decide +kernel
theorem dX1_trainsOf_50 : decode cX1_trainsOf 50 = .ok (.ireturn, 1) := by decide +kernel
theorem dX1_learn_0 : decode cX1_learn 0 = .ok (.aload_n 0, 1) := by decide +kernel
theorem dX1_learn_1 : decode cX1_learn 1 = .ok (.aload_n 1, 1) := by decide +kernel
theorem dX1_learn_2 : decode cX1_learn 2 = .ok (.invokevirtual 68, 3) := by decide +kernel
theorem dX1_learn_5 : decode cX1_learn 5 = .ok (.aload_n 0, 1) := by decide +kernel
theorem dX1_learn_6 : decode cX1_learn 6 = .ok (.getfield 36, 3) := by decide +kernel
theorem dX1_learn_9 : decode cX1_learn 9 = .ok (.ifCond .ne 8, 3) := by decide +kernel
theorem dX1_learn_12 : decode cX1_learn 12 = .ok (.aload_n 0, 1) := by decide +kernel
theorem dX1_learn_13 : decode cX1_learn 13 = .ok (.aload_n 1, 1) := by decide +kernel
theorem dX1_learn_14 : decode cX1_learn 14 = .ok (.invokevirtual 72, 3) := by decide +kernel
theorem dX1_learn_17 : decode cX1_learn 17 = .ok (.aload_n 0, 1) := by decide +kernel
theorem dX1_learn_18 : decode cX1_learn 18 = .ok (.aload_n 1, 1) := by decide +kernel
theorem dX1_learn_19 : decode cX1_learn 19 = .ok (.invokevirtual 75, 3) := by decide +kernel
theorem dX1_learn_22 : decode cX1_learn 22 = .ok (.return_, 1) := by decide +kernel
theorem dX1_learnEnds_0 : decode cX1_learnEnds 0 = .ok (.aload_n 1, 1) := by decide +kernel
theorem dX1_learnEnds_1 : decode cX1_learnEnds 1 = .ok (.iconst 0, 1) := by decide +kernel
theorem dX1_learnEnds_2 : decode cX1_learnEnds 2 = .ok (.invokestatic 78, 3) := by decide +kernel
theorem dX1_learnEnds_5 : decode cX1_learnEnds 5 = .ok (.istore_n 2, 1) := by decide +kernel
theorem dX1_learnEnds_6 : decode cX1_learnEnds 6 = .ok (.aload_n 1, 1) := by decide +kernel
theorem dX1_learnEnds_7 : decode cX1_learnEnds 7 = .ok (.iconst 1, 1) := by decide +kernel
theorem dX1_learnEnds_8 : decode cX1_learnEnds 8 = .ok (.invokestatic 78, 3) := by decide +kernel
theorem dX1_learnEnds_11 : decode cX1_learnEnds 11 = .ok (.istore_n 3, 1) := by decide +kernel
theorem dX1_learnEnds_12 : decode cX1_learnEnds 12 = .ok (.aload_n 1, 1) := by decide +kernel
theorem dX1_learnEnds_13 : decode cX1_learnEnds 13 = .ok (.iconst 2, 1) := by decide +kernel
theorem dX1_learnEnds_14 : decode cX1_learnEnds 14 = .ok (.invokestatic 78, 3) := by decide +kernel
theorem dX1_learnEnds_17 : decode cX1_learnEnds 17 = .ok (.istore 4, 2) := by decide +kernel
theorem dX1_learnEnds_19 : decode cX1_learnEnds 19 = .ok (.aload_n 1, 1) := by decide +kernel
theorem dX1_learnEnds_20 : decode cX1_learnEnds 20 = .ok (.iconst 3, 1) := by decide +kernel
theorem dX1_learnEnds_21 : decode cX1_learnEnds 21 = .ok (.invokestatic 78, 3) := by decide +kernel
theorem dX1_learnEnds_24 : decode cX1_learnEnds 24 = .ok (.istore 5, 2) := by decide +kernel
theorem dX1_learnEnds_26 : decode cX1_learnEnds 26 = .ok (.iconst 0, 1) := by decide +kernel
theorem dX1_learnEnds_27 : decode cX1_learnEnds 27 = .ok (.istore 6, 2) := by decide +kernel
theorem dX1_learnEnds_29 : decode cX1_learnEnds 29 = .ok (.iload 6, 2) := by decide +kernel
theorem dX1_learnEnds_31 : decode cX1_learnEnds 31 = .ok (.iload 5, 2) := by decide +kernel
theorem dX1_learnEnds_33 : decode cX1_learnEnds 33 = .ok (.if_icmp .gt 92, 3) := by decide +kernel
theorem dX1_learnEnds_36 : decode cX1_learnEnds 36 = .ok (.aload_n 0, 1) := by decide +kernel
theorem dX1_learnEnds_37 : decode cX1_learnEnds 37 = .ok (.getfield 23, 3) := by decide +kernel
theorem dX1_learnEnds_40 : decode cX1_learnEnds 40 = .ok (.iconst 3, 1) := by decide +kernel
theorem dX1_learnEnds_41 : decode cX1_learnEnds 41 = .ok (.iload 6, 2) := by decide +kernel
theorem dX1_learnEnds_43 : decode cX1_learnEnds 43 = .ok (.iastore, 1) := by decide +kernel
theorem dX1_learnEnds_44 : decode cX1_learnEnds 44 = .ok (.iconst 0, 1) := by decide +kernel
theorem dX1_learnEnds_45 : decode cX1_learnEnds 45 = .ok (.istore 7, 2) := by decide +kernel
theorem dX1_learnEnds_47 : decode cX1_learnEnds 47 = .ok (.iload 7, 2) := by decide +kernel
theorem dX1_learnEnds_49 : decode cX1_learnEnds 49 = .ok (.iload 4, 2) := by decide +kernel
theorem dX1_learnEnds_51 : decode cX1_learnEnds 51 = .ok (.if_icmp .gt 68, 3) := by decide +kernel
theorem dX1_learnEnds_54 : decode cX1_learnEnds 54 = .ok (.aload_n 0, 1) := by decide +kernel
theorem dX1_learnEnds_55 : decode cX1_learnEnds 55 = .ok (.getfield 23, 3) := by decide +kernel
theorem dX1_learnEnds_58 : decode cX1_learnEnds 58 = .ok (.iconst 2, 1) := by decide +kernel
theorem dX1_learnEnds_59 : decode cX1_learnEnds 59 = .ok (.iload 7, 2) := by decide +kernel
theorem dX1_learnEnds_61 : decode cX1_learnEnds 61 = .ok (.iastore, 1) := by decide +kernel
theorem dX1_learnEnds_62 : decode cX1_learnEnds 62 = .ok (.iconst 0, 1) := by decide +kernel
theorem dX1_learnEnds_63 : decode cX1_learnEnds 63 = .ok (.istore 8, 2) := by decide +kernel
theorem dX1_learnEnds_65 : decode cX1_learnEnds 65 = .ok (.iload 8, 2) := by decide +kernel
theorem dX1_learnEnds_67 : decode cX1_learnEnds 67 = .ok (.iload_n 3, 1) := by decide +kernel
theorem dX1_learnEnds_68 : decode cX1_learnEnds 68 = .ok (.if_icmp .gt 45, 3) := by decide +kernel
theorem dX1_learnEnds_71 : decode cX1_learnEnds 71 = .ok (.aload_n 0, 1) := by decide +kernel
theorem dX1_learnEnds_72 : decode cX1_learnEnds 72 = .ok (.getfield 23, 3) := by decide +kernel
theorem dX1_learnEnds_75 : decode cX1_learnEnds 75 = .ok (.iconst 1, 1) := by decide +kernel
theorem dX1_learnEnds_76 : decode cX1_learnEnds 76 = .ok (.iload 8, 2) := by decide +kernel
theorem dX1_learnEnds_78 : decode cX1_learnEnds 78 = .ok (.iastore, 1) := by decide +kernel
theorem dX1_learnEnds_79 : decode cX1_learnEnds 79 = .ok (.iconst 0, 1) := by decide +kernel
theorem dX1_learnEnds_80 : decode cX1_learnEnds 80 = .ok (.istore 9, 2) := by decide +kernel
theorem dX1_learnEnds_82 : decode cX1_learnEnds 82 = .ok (.iload 9, 2) := by decide +kernel
theorem dX1_learnEnds_84 : decode cX1_learnEnds 84 = .ok (.iload_n 2, 1) := by decide +kernel
theorem dX1_learnEnds_85 : decode cX1_learnEnds 85 = .ok (.if_icmp .gt 22, 3) := by decide +kernel
theorem dX1_learnEnds_88 : decode cX1_learnEnds 88 = .ok (.aload_n 0, 1) := by decide +kernel
theorem dX1_learnEnds_89 : decode cX1_learnEnds 89 = .ok (.getfield 23, 3) := by decide +kernel
theorem dX1_learnEnds_92 : decode cX1_learnEnds 92 = .ok (.iconst 0, 1) := by decide +kernel
theorem dX1_learnEnds_93 : decode cX1_learnEnds 93 = .ok (.iload 9, 2) := by decide +kernel
theorem dX1_learnEnds_95 : decode cX1_learnEnds 95 = .ok (.iastore, 1) := by decide +kernel
theorem dX1_learnEnds_96 : decode cX1_learnEnds 96 = .ok (.aload_n 0, 1) := by decide +kernel
theorem dX1_learnEnds_97 : decode cX1_learnEnds 97 = .ok (.aload_n 1, 1) := by decide +kernel
theorem dX1_learnEnds_98 : decode cX1_learnEnds 98 = .ok (.invokevirtual 82, 3) := by decide +kernel
theorem dX1_learnEnds_101 : decode cX1_learnEnds 101 = .ok (.iinc 9 1, 3) := by decide +kernel
theorem dX1_learnEnds_104 : decode cX1_learnEnds 104 = .ok (.goto (-22), 3) := by decide +kernel
theorem dX1_learnEnds_107 : decode cX1_learnEnds 107 = .ok (.iinc 8 1, 3) := by decide +kernel
theorem dX1_learnEnds_110 : decode cX1_learnEnds 110 = .ok (.goto (-45), 3) := by decide +kernel
theorem dX1_learnEnds_113 : decode cX1_learnEnds 113 = .ok (.iinc 7 1, 3) := by decide +kernel
theorem dX1_learnEnds_116 : decode cX1_learnEnds 116 = .ok (.goto (-69), 3) := by decide +kernel
theorem dX1_learnEnds_119 : decode cX1_learnEnds 119 = .ok (.iinc 6 1, 3) := by decide +kernel
theorem dX1_learnEnds_122 : decode cX1_learnEnds 122 = .ok (.goto (-93), 3) := by decide +kernel
theorem dX1_learnEnds_125 : decode cX1_learnEnds 125 = .ok (.aload_n 0, 1) := by decide +kernel
theorem dX1_learnEnds_126 : decode cX1_learnEnds 126 = .ok (.iconst 1, 1) := by decide +kernel
theorem dX1_learnEnds_127 : decode cX1_learnEnds 127 = .ok (.putfield 36, 3) := by decide +kernel
theorem dX1_learnEnds_130 : decode cX1_learnEnds 130 = .ok (.return_, 1) := by decide +kernel
theorem dX1_highest_0 : decode cX1_highest 0 = .ok (.iload_n 1, 1) := by decide +kernel
theorem dX1_highest_1 : decode cX1_highest 1 = .ok (.aload_n 0, 1) := by decide +kernel
theorem dX1_highest_2 : decode cX1_highest 2 = .ok (.getfield 45, 3) := by decide +kernel
theorem dX1_highest_5 : decode cX1_highest 5 = .ok (.if_icmp .ge 12, 3) := by decide +kernel
theorem dX1_highest_8 : decode cX1_highest 8 = .ok (.aload_n 0, 1) := by decide +kernel
theorem dX1_highest_9 : decode cX1_highest 9 = .ok (.getfield 85, 3) := by decide +kernel
theorem dX1_highest_12 : decode cX1_highest 12 = .ok (.iload_n 1, 1) := by decide +kernel
theorem dX1_highest_13 : decode cX1_highest 13 = .ok (.iaload, 1) := by decide +kernel
theorem dX1_highest_14 : decode cX1_highest 14 = .ok (.goto 4, 3) := by decide +kernel
theorem dX1_highest_17 : decode cX1_highest 17 = .ok (.iconst 0, 1) := by decide +kernel
theorem dX1_highest_18 : decode cX1_highest 18 = .ok (.ireturn, 1) := by decide +kernel
theorem dX1_learnOne_0 : decode cX1_learnOne 0 = .ok (.aload_n 0, 1) := by decide +kernel
theorem dX1_learnOne_1 : decode cX1_learnOne 1 = .ok (.aload_n 1, 1) := by decide +kernel
theorem dX1_learnOne_2 : decode cX1_learnOne 2 = .ok (.invokevirtual 86, 3) := by decide +kernel
theorem dX1_learnOne_5 : decode cX1_learnOne 5 = .ok (.aload_n 0, 1) := by decide +kernel
theorem dX1_learnOne_6 : decode cX1_learnOne 6 = .ok (.invokevirtual 89, 3) := by decide +kernel
theorem dX1_learnOne_9 : decode cX1_learnOne 9 = .ok (.istore_n 2, 1) := by decide +kernel
theorem dX1_learnOne_10 : decode cX1_learnOne 10 = .ok (.iload_n 2, 1) := by decide +kernel
theorem dX1_learnOne_11 : decode cX1_learnOne 11 = .ok (.ifCond .ne 8, 3) := by decide +kernel
theorem dX1_learnOne_14 : decode cX1_learnOne 14 = .ok (.bipush 16, 2) := by decide +kernel
theorem dX1_learnOne_16 : decode cX1_learnOne 16 = .ok (.goto 4, 3) := by decide +kernel
theorem dX1_learnOne_19 : decode cX1_learnOne 19 = .ok (.iconst 0, 1) := by decide +kernel
theorem dX1_learnOne_20 : decode cX1_learnOne 20 = .ok (.istore_n 3, 1) := by decide +kernel
theorem dX1_learnOne_21 : decode cX1_learnOne 21 = .ok (.iconst 0, 1) := by decide +kernel
theorem dX1_learnOne_22 : decode cX1_learnOne 22 = .ok (.istore 4, 2) := by decide +kernel
theorem dX1_learnOne_24 : decode cX1_learnOne 24 = .ok (.iload 4, 2) := by decide +kernel
theorem dX1_learnOne_26 : decode cX1_learnOne 26 = .ok (.aload_n 1, 1) := by decide +kernel
theorem dX1_learnOne_27 : decode cX1_learnOne 27 = .ok (.getfield 45, 3) := by decide +kernel
theorem dX1_learnOne_30 : decode cX1_learnOne 30 = .ok (.if_icmp .ge 55, 3) := by decide +kernel
theorem dX1_learnOne_33 : decode cX1_learnOne 33 = .ok (.aload_n 0, 1) := by decide +kernel
theorem dX1_learnOne_34 : decode cX1_learnOne 34 = .ok (.getfield 23, 3) := by decide +kernel
theorem dX1_learnOne_37 : decode cX1_learnOne 37 = .ok (.iload 4, 2) := by decide +kernel
theorem dX1_learnOne_39 : decode cX1_learnOne 39 = .ok (.iaload, 1) := by decide +kernel
theorem dX1_learnOne_40 : decode cX1_learnOne 40 = .ok (.ifCond .ne 13, 3) := by decide +kernel
theorem dX1_learnOne_43 : decode cX1_learnOne 43 = .ok (.iload_n 3, 1) := by decide +kernel
theorem dX1_learnOne_44 : decode cX1_learnOne 44 = .ok (.iconst 1, 1) := by decide +kernel
theorem dX1_learnOne_45 : decode cX1_learnOne 45 = .ok (.iload 4, 2) := by decide +kernel
theorem dX1_learnOne_47 : decode cX1_learnOne 47 = .ok (.ishl, 1) := by decide +kernel
theorem dX1_learnOne_48 : decode cX1_learnOne 48 = .ok (.ior, 1) := by decide +kernel
theorem dX1_learnOne_49 : decode cX1_learnOne 49 = .ok (.istore_n 3, 1) := by decide +kernel
theorem dX1_learnOne_50 : decode cX1_learnOne 50 = .ok (.goto 29, 3) := by decide +kernel
theorem dX1_learnOne_53 : decode cX1_learnOne 53 = .ok (.aload_n 0, 1) := by decide +kernel
theorem dX1_learnOne_54 : decode cX1_learnOne 54 = .ok (.aload_n 1, 1) := by decide +kernel
theorem dX1_learnOne_55 : decode cX1_learnOne 55 = .ok (.iload 4, 2) := by decide +kernel
theorem dX1_learnOne_57 : decode cX1_learnOne 57 = .ok (.invokevirtual 93, 3) := by decide +kernel
theorem dX1_learnOne_60 : decode cX1_learnOne 60 = .ok (.ifCond .eq 19, 3) := by decide +kernel
theorem dX1_learnOne_63 : decode cX1_learnOne 63 = .ok (.iload_n 3, 1) := by decide +kernel
theorem dX1_learnOne_64 : decode cX1_learnOne 64 = .ok (.aload_n 0, 1) := by decide +kernel
theorem dX1_learnOne_65 : decode cX1_learnOne 65 = .ok (.getfield 15, 3) := by decide +kernel
theorem dX1_learnOne_68 : decode cX1_learnOne 68 = .ok (.iload_n 2, 1) := by decide +kernel
theorem dX1_learnOne_69 : decode cX1_learnOne 69 = .ok (.getstatic 97, 3) := by decide +kernel
theorem dX1_learnOne_72 : decode cX1_learnOne 72 = .ok (.iload 4, 2) := by decide +kernel
theorem dX1_learnOne_74 : decode cX1_learnOne 74 = .ok (.iaload, 1) := by decide +kernel
theorem dX1_learnOne_75 : decode cX1_learnOne 75 = .ok (.isub, 1) := by decide +kernel
theorem dX1_learnOne_76 : decode cX1_learnOne 76 = .ok (.iaload, 1) := by decide +kernel
theorem dX1_learnOne_77 : decode cX1_learnOne 77 = .ok (.ior, 1) := by decide +kernel
theorem dX1_learnOne_78 : decode cX1_learnOne 78 = .ok (.istore_n 3, 1) := by decide +kernel
theorem dX1_learnOne_79 : decode cX1_learnOne 79 = .ok (.iinc 4 1, 3) := by decide +kernel
theorem dX1_learnOne_82 : decode cX1_learnOne 82 = .ok (.goto (-58), 3) := by decide +kernel
theorem dX1_learnOne_85 : decode cX1_learnOne 85 = .ok (.aload_n 0, 1) := by decide +kernel
theorem dX1_learnOne_86 : decode cX1_learnOne 86 = .ok (.getfield 15, 3) := by decide +kernel
theorem dX1_learnOne_89 : decode cX1_learnOne 89 = .ok (.iload_n 2, 1) := by decide +kernel
theorem dX1_learnOne_90 : decode cX1_learnOne 90 = .ok (.iload_n 3, 1) := by decide +kernel
theorem dX1_learnOne_91 : decode cX1_learnOne 91 = .ok (.iastore, 1) := by decide +kernel
theorem dX1_learnOne_92 : decode cX1_learnOne 92 = .ok (.return_, 1) := by decide +kernel
theorem dX1_code_0 : decode cX1_code 0 = .ok (.aload_n 0, 1) := by decide +kernel
theorem dX1_code_1 : decode cX1_code 1 = .ok (.getfield 23, 3) := by decide +kernel
theorem dX1_code_4 : decode cX1_code 4 = .ok (.iconst 0, 1) := by decide +kernel
theorem dX1_code_5 : decode cX1_code 5 = .ok (.iaload, 1) := by decide +kernel
theorem dX1_code_6 : decode cX1_code 6 = .ok (.bipush 6, 2) := by decide +kernel
theorem dX1_code_8 : decode cX1_code 8 = .ok (.aload_n 0, 1) := by decide +kernel
theorem dX1_code_9 : decode cX1_code 9 = .ok (.getfield 23, 3) := by decide +kernel
theorem dX1_code_12 : decode cX1_code 12 = .ok (.iconst 1, 1) := by decide +kernel
theorem dX1_code_13 : decode cX1_code 13 = .ok (.iaload, 1) := by decide +kernel
theorem dX1_code_14 : decode cX1_code 14 = .ok (.bipush 6, 2) := by decide +kernel
theorem dX1_code_16 : decode cX1_code 16 = .ok (.aload_n 0, 1) := by decide +kernel
theorem dX1_code_17 : decode cX1_code 17 = .ok (.getfield 23, 3) := by decide +kernel
theorem dX1_code_20 : decode cX1_code 20 = .ok (.iconst 2, 1) := by decide +kernel
theorem dX1_code_21 : decode cX1_code 21 = .ok (.iaload, 1) := by decide +kernel
theorem dX1_code_22 : decode cX1_code 22 = .ok (.bipush 6, 2) := by decide +kernel
theorem dX1_code_24 : decode cX1_code 24 = .ok (.aload_n 0, 1) := by decide +kernel
theorem dX1_code_25 : decode cX1_code 25 = .ok (.getfield 23, 3) := by decide +kernel
theorem dX1_code_28 : decode cX1_code 28 = .ok (.iconst 3, 1) := by decide +kernel
theorem dX1_code_29 : decode cX1_code 29 = .ok (.iaload, 1) := by decide +kernel
theorem dX1_code_30 : decode cX1_code 30 = .ok (.imul, 1) := by decide +kernel
theorem dX1_code_31 : decode cX1_code 31 = .ok (.iadd, 1) := by decide +kernel
theorem dX1_code_32 : decode cX1_code 32 = .ok (.imul, 1) := by decide +kernel
theorem dX1_code_33 : decode cX1_code 33 = .ok (.iadd, 1) := by decide +kernel
theorem dX1_code_34 : decode cX1_code 34 = .ok (.imul, 1) := by decide +kernel
theorem dX1_code_35 : decode cX1_code 35 = .ok (.iadd, 1) := by decide +kernel
theorem dX1_code_36 : decode cX1_code 36 = .ok (.ireturn, 1) := by decide +kernel
theorem dX1_placeAll_0 : decode cX1_placeAll 0 = .ok (.aload_n 0, 1) := by decide +kernel
theorem dX1_placeAll_1 : decode cX1_placeAll 1 = .ok (.getfield 26, 3) := by decide +kernel
theorem dX1_placeAll_4 : decode cX1_placeAll 4 = .ok (.iconst 0, 1) := by decide +kernel
theorem dX1_placeAll_5 : decode cX1_placeAll 5 = .ok (.invokestatic 100, 3) := by decide +kernel
theorem dX1_placeAll_8 : decode cX1_placeAll 8 = .ok (.iconst 0, 1) := by decide +kernel
theorem dX1_placeAll_9 : decode cX1_placeAll 9 = .ok (.istore_n 2, 1) := by decide +kernel
theorem dX1_placeAll_10 : decode cX1_placeAll 10 = .ok (.iload_n 2, 1) := by decide +kernel
theorem dX1_placeAll_11 : decode cX1_placeAll 11 = .ok (.aload_n 1, 1) := by decide +kernel
theorem dX1_placeAll_12 : decode cX1_placeAll 12 = .ok (.getfield 45, 3) := by decide +kernel
theorem dX1_placeAll_15 : decode cX1_placeAll 15 = .ok (.if_icmp .ge 40, 3) := by decide +kernel
theorem dX1_placeAll_18 : decode cX1_placeAll 18 = .ok (.aload_n 0, 1) := by decide +kernel
theorem dX1_placeAll_19 : decode cX1_placeAll 19 = .ok (.getfield 23, 3) := by decide +kernel
theorem dX1_placeAll_22 : decode cX1_placeAll 22 = .ok (.iload_n 2, 1) := by decide +kernel
theorem dX1_placeAll_23 : decode cX1_placeAll 23 = .ok (.iaload, 1) := by decide +kernel
theorem dX1_placeAll_24 : decode cX1_placeAll 24 = .ok (.ifCond .le 25, 3) := by decide +kernel
theorem dX1_placeAll_27 : decode cX1_placeAll 27 = .ok (.aload_n 0, 1) := by decide +kernel
theorem dX1_placeAll_28 : decode cX1_placeAll 28 = .ok (.getfield 26, 3) := by decide +kernel
theorem dX1_placeAll_31 : decode cX1_placeAll 31 = .ok (.aload_n 1, 1) := by decide +kernel
theorem dX1_placeAll_32 : decode cX1_placeAll 32 = .ok (.iload_n 2, 1) := by decide +kernel
theorem dX1_placeAll_33 : decode cX1_placeAll 33 = .ok (.aload_n 0, 1) := by decide +kernel
theorem dX1_placeAll_34 : decode cX1_placeAll 34 = .ok (.getfield 23, 3) := by decide +kernel
theorem dX1_placeAll_37 : decode cX1_placeAll 37 = .ok (.iload_n 2, 1) := by decide +kernel
theorem dX1_placeAll_38 : decode cX1_placeAll 38 = .ok (.iaload, 1) := by decide +kernel
theorem dX1_placeAll_39 : decode cX1_placeAll 39 = .ok (.invokevirtual 106, 3) := by decide +kernel
theorem dX1_placeAll_42 : decode cX1_placeAll 42 = .ok (.dup2, 1) := by decide +kernel
theorem dX1_placeAll_43 : decode cX1_placeAll 43 = .ok (.iaload, 1) := by decide +kernel
theorem dX1_placeAll_44 : decode cX1_placeAll 44 = .ok (.iconst 1, 1) := by decide +kernel
theorem dX1_placeAll_45 : decode cX1_placeAll 45 = .ok (.iload_n 2, 1) := by decide +kernel
theorem dX1_placeAll_46 : decode cX1_placeAll 46 = .ok (.ishl, 1) := by decide +kernel
theorem dX1_placeAll_47 : decode cX1_placeAll 47 = .ok (.ior, 1) := by decide +kernel
theorem dX1_placeAll_48 : decode cX1_placeAll 48 = .ok (.iastore, 1) := by decide +kernel
theorem dX1_placeAll_49 : decode cX1_placeAll 49 = .ok (.iinc 2 1, 3) := by decide +kernel
theorem dX1_placeAll_52 : decode cX1_placeAll 52 = .ok (.goto (-42), 3) := by decide +kernel
theorem dX1_placeAll_55 : decode cX1_placeAll 55 = .ok (.return_, 1) := by decide +kernel
theorem dX1_look_0 : decode cX1_look 0 = .ok (.iconst 0, 1) := by decide +kernel
theorem dX1_look_1 : decode cX1_look 1 = .ok (.istore_n 2, 1) := by decide +kernel
theorem dX1_look_2 : decode cX1_look 2 = .ok (.iload_n 2, 1) := by decide +kernel
theorem dX1_look_3 : decode cX1_look 3 = .ok (.iconst 4, 1) := by decide +kernel
theorem dX1_look_4 : decode cX1_look 4 = .ok (.if_icmp .ge 20, 3) := by decide +kernel
theorem dX1_look_7 : decode cX1_look 7 = .ok (.aload_n 0, 1) := by decide +kernel
theorem dX1_look_8 : decode cX1_look 8 = .ok (.getfield 23, 3) := by decide +kernel
theorem dX1_look_11 : decode cX1_look 11 = .ok (.iload_n 2, 1) := by decide +kernel
theorem dX1_look_12 : decode cX1_look 12 = .ok (.aload_n 1, 1) := by decide +kernel
theorem dX1_look_13 : decode cX1_look 13 = .ok (.iload_n 2, 1) := by decide +kernel
theorem dX1_look_14 : decode cX1_look 14 = .ok (.invokestatic 78, 3) := by decide +kernel
theorem dX1_look_17 : decode cX1_look 17 = .ok (.iastore, 1) := by decide +kernel
theorem dX1_look_18 : decode cX1_look 18 = .ok (.iinc 2 1, 3) := by decide +kernel
theorem dX1_look_21 : decode cX1_look 21 = .ok (.goto (-19), 3) := by decide +kernel
theorem dX1_look_24 : decode cX1_look 24 = .ok (.aload_n 0, 1) := by decide +kernel
theorem dX1_look_25 : decode cX1_look 25 = .ok (.aload_n 1, 1) := by decide +kernel
theorem dX1_look_26 : decode cX1_look 26 = .ok (.invokevirtual 86, 3) := by decide +kernel
theorem dX1_look_29 : decode cX1_look 29 = .ok (.return_, 1) := by decide +kernel
theorem dX1_canStep_0 : decode cX1_canStep 0 = .ok (.aload_n 0, 1) := by decide +kernel
theorem dX1_canStep_1 : decode cX1_canStep 1 = .ok (.getfield 23, 3) := by decide +kernel
theorem dX1_canStep_4 : decode cX1_canStep 4 = .ok (.iload_n 2, 1) := by decide +kernel
theorem dX1_canStep_5 : decode cX1_canStep 5 = .ok (.iaload, 1) := by decide +kernel
theorem dX1_canStep_6 : decode cX1_canStep 6 = .ok (.iconst 2, 1) := by decide +kernel
theorem dX1_canStep_7 : decode cX1_canStep 7 = .ok (.if_icmp .ge 19, 3) := by decide +kernel
theorem dX1_canStep_10 : decode cX1_canStep 10 = .ok (.aload_n 0, 1) := by decide +kernel
theorem dX1_canStep_11 : decode cX1_canStep 11 = .ok (.getfield 23, 3) := by decide +kernel
theorem dX1_canStep_14 : decode cX1_canStep 14 = .ok (.iload_n 2, 1) := by decide +kernel
theorem dX1_canStep_15 : decode cX1_canStep 15 = .ok (.iaload, 1) := by decide +kernel
theorem dX1_canStep_16 : decode cX1_canStep 16 = .ok (.iconst 1, 1) := by decide +kernel
theorem dX1_canStep_17 : decode cX1_canStep 17 = .ok (.if_icmp .ne 7, 3) := by decide +kernel
theorem dX1_canStep_20 : decode cX1_canStep 20 = .ok (.iconst 1, 1) := by decide +kernel
theorem dX1_canStep_21 : decode cX1_canStep 21 = .ok (.goto 4, 3) := by decide +kernel
theorem dX1_canStep_24 : decode cX1_canStep 24 = .ok (.iconst 0, 1) := by decide +kernel
theorem dX1_canStep_25 : decode cX1_canStep 25 = .ok (.ireturn, 1) := by decide +kernel
theorem dX1_canStep_26 : decode cX1_canStep 26 = .ok (.aload_n 1, 1) := by decide +kernel
theorem dX1_canStep_27 : decode cX1_canStep 27 = .ok (.iload_n 2, 1) := by decide +kernel
theorem dX1_canStep_28 : decode cX1_canStep 28 = .ok (.aload_n 0, 1) := by decide +kernel
theorem dX1_canStep_29 : decode cX1_canStep 29 = .ok (.getfield 23, 3) := by decide +kernel
theorem dX1_canStep_32 : decode cX1_canStep 32 = .ok (.iload_n 2, 1) := by decide +kernel
theorem dX1_canStep_33 : decode cX1_canStep 33 = .ok (.iaload, 1) := by decide +kernel
theorem dX1_canStep_34 : decode cX1_canStep 34 = .ok (.iconst 1, 1) := by decide +kernel
theorem dX1_canStep_35 : decode cX1_canStep 35 = .ok (.isub, 1) := by decide +kernel
theorem dX1_canStep_36 : decode cX1_canStep 36 = .ok (.invokevirtual 106, 3) := by decide +kernel
theorem dX1_canStep_39 : decode cX1_canStep 39 = .ok (.istore_n 3, 1) := by decide +kernel
theorem dX1_canStep_40 : decode cX1_canStep 40 = .ok (.aload_n 0, 1) := by decide +kernel
theorem dX1_canStep_41 : decode cX1_canStep 41 = .ok (.getfield 11, 3) := by decide +kernel
theorem dX1_canStep_44 : decode cX1_canStep 44 = .ok (.iload_n 3, 1) := by decide +kernel
theorem dX1_canStep_45 : decode cX1_canStep 45 = .ok (.bipush 16, 2) := by decide +kernel
theorem dX1_canStep_47 : decode cX1_canStep 47 = .ok (.imul, 1) := by decide +kernel
theorem dX1_canStep_48 : decode cX1_canStep 48 = .ok (.aload_n 0, 1) := by decide +kernel
theorem dX1_canStep_49 : decode cX1_canStep 49 = .ok (.getfield 26, 3) := by decide +kernel
theorem dX1_canStep_52 : decode cX1_canStep 52 = .ok (.iload_n 3, 1) := by decide +kernel
theorem dX1_canStep_53 : decode cX1_canStep 53 = .ok (.iaload, 1) := by decide +kernel
theorem dX1_canStep_54 : decode cX1_canStep 54 = .ok (.iconst 1, 1) := by decide +kernel
theorem dX1_canStep_55 : decode cX1_canStep 55 = .ok (.iload_n 2, 1) := by decide +kernel
theorem dX1_canStep_56 : decode cX1_canStep 56 = .ok (.ishl, 1) := by decide +kernel
theorem dX1_canStep_57 : decode cX1_canStep 57 = .ok (.ior, 1) := by decide +kernel
theorem dX1_canStep_58 : decode cX1_canStep 58 = .ok (.iadd, 1) := by decide +kernel
theorem dX1_canStep_59 : decode cX1_canStep 59 = .ok (.baload, 1) := by decide +kernel
theorem dX1_canStep_60 : decode cX1_canStep 60 = .ok (.ireturn, 1) := by decide +kernel
theorem dX1_endsBehind_0 : decode cX1_endsBehind 0 = .ok (.aload_n 0, 1) := by decide +kernel
theorem dX1_endsBehind_1 : decode cX1_endsBehind 1 = .ok (.getfield 23, 3) := by decide +kernel
theorem dX1_endsBehind_4 : decode cX1_endsBehind 4 = .ok (.iload_n 1, 1) := by decide +kernel
theorem dX1_endsBehind_5 : decode cX1_endsBehind 5 = .ok (.iaload, 1) := by decide +kernel
theorem dX1_endsBehind_6 : decode cX1_endsBehind 6 = .ok (.ifCond .le 21, 3) := by decide +kernel
theorem dX1_endsBehind_9 : decode cX1_endsBehind 9 = .ok (.aload_n 0, 1) := by decide +kernel
theorem dX1_endsBehind_10 : decode cX1_endsBehind 10 = .ok (.getfield 15, 3) := by decide +kernel
theorem dX1_endsBehind_13 : decode cX1_endsBehind 13 = .ok (.aload_n 0, 1) := by decide +kernel
theorem dX1_endsBehind_14 : decode cX1_endsBehind 14 = .ok (.invokevirtual 89, 3) := by decide +kernel
theorem dX1_endsBehind_17 : decode cX1_endsBehind 17 = .ok (.getstatic 97, 3) := by decide +kernel
theorem dX1_endsBehind_20 : decode cX1_endsBehind 20 = .ok (.iload_n 1, 1) := by decide +kernel
theorem dX1_endsBehind_21 : decode cX1_endsBehind 21 = .ok (.iaload, 1) := by decide +kernel
theorem dX1_endsBehind_22 : decode cX1_endsBehind 22 = .ok (.isub, 1) := by decide +kernel
theorem dX1_endsBehind_23 : decode cX1_endsBehind 23 = .ok (.iaload, 1) := by decide +kernel
theorem dX1_endsBehind_24 : decode cX1_endsBehind 24 = .ok (.goto 4, 3) := by decide +kernel
theorem dX1_endsBehind_27 : decode cX1_endsBehind 27 = .ok (.iconst 0, 1) := by decide +kernel
theorem dX1_endsBehind_28 : decode cX1_endsBehind 28 = .ok (.ireturn, 1) := by decide +kernel
theorem dX1_isSafeBehind_0 : decode cX1_isSafeBehind 0 = .ok (.aload_n 0, 1) := by decide +kernel
theorem dX1_isSafeBehind_1 : decode cX1_isSafeBehind 1 = .ok (.iload_n 1, 1) := by decide +kernel
theorem dX1_isSafeBehind_2 : decode cX1_isSafeBehind 2 = .ok (.invokevirtual 110, 3) := by decide +kernel
theorem dX1_isSafeBehind_5 : decode cX1_isSafeBehind 5 = .ok (.bipush 16, 2) := by decide +kernel
theorem dX1_isSafeBehind_7 : decode cX1_isSafeBehind 7 = .ok (.iand, 1) := by decide +kernel
theorem dX1_isSafeBehind_8 : decode cX1_isSafeBehind 8 = .ok (.ifCond .eq 7, 3) := by decide +kernel
theorem dX1_isSafeBehind_11 : decode cX1_isSafeBehind 11 = .ok (.iconst 1, 1) := by decide +kernel
theorem dX1_isSafeBehind_12 : decode cX1_isSafeBehind 12 = .ok (.goto 4, 3) := by decide +kernel
theorem dX1_isSafeBehind_15 : decode cX1_isSafeBehind 15 = .ok (.iconst 0, 1) := by decide +kernel
theorem dX1_isSafeBehind_16 : decode cX1_isSafeBehind 16 = .ok (.ireturn, 1) := by decide +kernel
theorem dX1_firstLostBehind_0 : decode cX1_firstLostBehind 0 = .ok (.aload_n 0, 1) := by decide +kernel
theorem dX1_firstLostBehind_1 : decode cX1_firstLostBehind 1 = .ok (.iload_n 2, 1) := by decide +kernel
theorem dX1_firstLostBehind_2 : decode cX1_firstLostBehind 2 = .ok (.invokevirtual 110, 3) := by decide +kernel
theorem dX1_firstLostBehind_5 : decode cX1_firstLostBehind 5 = .ok (.istore_n 3, 1) := by decide +kernel
theorem dX1_firstLostBehind_6 : decode cX1_firstLostBehind 6 = .ok (.iconst 0, 1) := by decide +kernel
theorem dX1_firstLostBehind_7 : decode cX1_firstLostBehind 7 = .ok (.istore 4, 2) := by decide +kernel
theorem dX1_firstLostBehind_9 : decode cX1_firstLostBehind 9 = .ok (.iload 4, 2) := by decide +kernel
theorem dX1_firstLostBehind_11 : decode cX1_firstLostBehind 11 = .ok (.aload_n 1, 1) := by decide +kernel
theorem dX1_firstLostBehind_12 : decode cX1_firstLostBehind 12 = .ok (.getfield 45, 3) := by decide +kernel
theorem dX1_firstLostBehind_15 : decode cX1_firstLostBehind 15 = .ok (.if_icmp .ge 21, 3) := by decide +kernel
theorem dX1_firstLostBehind_18 : decode cX1_firstLostBehind 18 = .ok (.iload_n 3, 1) := by decide +kernel
theorem dX1_firstLostBehind_19 : decode cX1_firstLostBehind 19 = .ok (.iload 4, 2) := by decide +kernel
theorem dX1_firstLostBehind_21 : decode cX1_firstLostBehind 21 = .ok (.ishr, 1) := by decide +kernel
theorem dX1_firstLostBehind_22 : decode cX1_firstLostBehind 22 = .ok (.iconst 1, 1) := by decide +kernel
theorem dX1_firstLostBehind_23 : decode cX1_firstLostBehind 23 = .ok (.iand, 1) := by decide +kernel
theorem dX1_firstLostBehind_24 : decode cX1_firstLostBehind 24 = .ok (.ifCond .ne 6, 3) := by decide +kernel
theorem dX1_firstLostBehind_27 : decode cX1_firstLostBehind 27 = .ok (.iload 4, 2) := by decide +kernel
theorem dX1_firstLostBehind_29 : decode cX1_firstLostBehind 29 = .ok (.ireturn, 1) := by decide +kernel
theorem dX1_firstLostBehind_30 : decode cX1_firstLostBehind 30 = .ok (.iinc 4 1, 3) := by decide +kernel
theorem dX1_firstLostBehind_33 : decode cX1_firstLostBehind 33 = .ok (.goto (-24), 3) := by decide +kernel
theorem dX1_firstLostBehind_36 : decode cX1_firstLostBehind 36 = .ok (.bipush (-4), 2) := by decide +kernel
theorem dX1_firstLostBehind_38 : decode cX1_firstLostBehind 38 = .ok (.ireturn, 1) := by decide +kernel
theorem dX1_firstAhead_0 : decode cX1_firstAhead 0 = .ok (.aload_n 1, 1) := by decide +kernel
theorem dX1_firstAhead_1 : decode cX1_firstAhead 1 = .ok (.iload_n 2, 1) := by decide +kernel
theorem dX1_firstAhead_2 : decode cX1_firstAhead 2 = .ok (.aload_n 0, 1) := by decide +kernel
theorem dX1_firstAhead_3 : decode cX1_firstAhead 3 = .ok (.getfield 23, 3) := by decide +kernel
theorem dX1_firstAhead_6 : decode cX1_firstAhead 6 = .ok (.iload_n 2, 1) := by decide +kernel
theorem dX1_firstAhead_7 : decode cX1_firstAhead 7 = .ok (.iaload, 1) := by decide +kernel
theorem dX1_firstAhead_8 : decode cX1_firstAhead 8 = .ok (.iconst 1, 1) := by decide +kernel
theorem dX1_firstAhead_9 : decode cX1_firstAhead 9 = .ok (.isub, 1) := by decide +kernel
theorem dX1_firstAhead_10 : decode cX1_firstAhead 10 = .ok (.invokevirtual 106, 3) := by decide +kernel
theorem dX1_firstAhead_13 : decode cX1_firstAhead 13 = .ok (.istore_n 3, 1) := by decide +kernel
theorem dX1_firstAhead_14 : decode cX1_firstAhead 14 = .ok (.iconst 0, 1) := by decide +kernel
theorem dX1_firstAhead_15 : decode cX1_firstAhead 15 = .ok (.istore 4, 2) := by decide +kernel
theorem dX1_firstAhead_17 : decode cX1_firstAhead 17 = .ok (.iload 4, 2) := by decide +kernel
theorem dX1_firstAhead_19 : decode cX1_firstAhead 19 = .ok (.aload_n 1, 1) := by decide +kernel
theorem dX1_firstAhead_20 : decode cX1_firstAhead 20 = .ok (.getfield 45, 3) := by decide +kernel
theorem dX1_firstAhead_23 : decode cX1_firstAhead 23 = .ok (.if_icmp .ge 39, 3) := by decide +kernel
theorem dX1_firstAhead_26 : decode cX1_firstAhead 26 = .ok (.aload_n 0, 1) := by decide +kernel
theorem dX1_firstAhead_27 : decode cX1_firstAhead 27 = .ok (.getfield 23, 3) := by decide +kernel
theorem dX1_firstAhead_30 : decode cX1_firstAhead 30 = .ok (.iload 4, 2) := by decide +kernel
theorem dX1_firstAhead_32 : decode cX1_firstAhead 32 = .ok (.iaload, 1) := by decide +kernel
theorem dX1_firstAhead_33 : decode cX1_firstAhead 33 = .ok (.ifCond .le 23, 3) := by decide +kernel
theorem dX1_firstAhead_36 : decode cX1_firstAhead 36 = .ok (.aload_n 1, 1) := by decide +kernel
theorem dX1_firstAhead_37 : decode cX1_firstAhead 37 = .ok (.iload 4, 2) := by decide +kernel
theorem dX1_firstAhead_39 : decode cX1_firstAhead 39 = .ok (.aload_n 0, 1) := by decide +kernel
theorem dX1_firstAhead_40 : decode cX1_firstAhead 40 = .ok (.getfield 23, 3) := by decide +kernel
theorem dX1_firstAhead_43 : decode cX1_firstAhead 43 = .ok (.iload 4, 2) := by decide +kernel
theorem dX1_firstAhead_45 : decode cX1_firstAhead 45 = .ok (.iaload, 1) := by decide +kernel
theorem dX1_firstAhead_46 : decode cX1_firstAhead 46 = .ok (.invokevirtual 106, 3) := by decide +kernel
theorem dX1_firstAhead_49 : decode cX1_firstAhead 49 = .ok (.iload_n 3, 1) := by decide +kernel
theorem dX1_firstAhead_50 : decode cX1_firstAhead 50 = .ok (.if_icmp .ne 6, 3) := by decide +kernel
theorem dX1_firstAhead_53 : decode cX1_firstAhead 53 = .ok (.iload 4, 2) := by decide +kernel
theorem dX1_firstAhead_55 : decode cX1_firstAhead 55 = .ok (.ireturn, 1) := by decide +kernel
theorem dX1_firstAhead_56 : decode cX1_firstAhead 56 = .ok (.iinc 4 1, 3) := by decide +kernel
theorem dX1_firstAhead_59 : decode cX1_firstAhead 59 = .ok (.goto (-42), 3) := by decide +kernel
theorem dX1_firstAhead_62 : decode cX1_firstAhead 62 = .ok (.bipush (-4), 2) := by decide +kernel
theorem dX1_firstAhead_64 : decode cX1_firstAhead 64 = .ok (.ireturn, 1) := by decide +kernel
theorem dX1_holdsAll_0 : decode cX1_holdsAll 0 = .ok (.aload_n 0, 1) := by decide +kernel
theorem dX1_holdsAll_1 : decode cX1_holdsAll 1 = .ok (.aload_n 1, 1) := by decide +kernel
theorem dX1_holdsAll_2 : decode cX1_holdsAll 2 = .ok (.invokevirtual 75, 3) := by decide +kernel
theorem dX1_holdsAll_5 : decode cX1_holdsAll 5 = .ok (.iconst 0, 1) := by decide +kernel
theorem dX1_holdsAll_6 : decode cX1_holdsAll 6 = .ok (.istore_n 2, 1) := by decide +kernel
theorem dX1_holdsAll_7 : decode cX1_holdsAll 7 = .ok (.iload_n 2, 1) := by decide +kernel
theorem dX1_holdsAll_8 : decode cX1_holdsAll 8 = .ok (.aload_n 1, 1) := by decide +kernel
theorem dX1_holdsAll_9 : decode cX1_holdsAll 9 = .ok (.getfield 39, 3) := by decide +kernel
theorem dX1_holdsAll_12 : decode cX1_holdsAll 12 = .ok (.if_icmp .ge 30, 3) := by decide +kernel
theorem dX1_holdsAll_15 : decode cX1_holdsAll 15 = .ok (.aload_n 0, 1) := by decide +kernel
theorem dX1_holdsAll_16 : decode cX1_holdsAll 16 = .ok (.getfield 11, 3) := by decide +kernel
theorem dX1_holdsAll_19 : decode cX1_holdsAll 19 = .ok (.iload_n 2, 1) := by decide +kernel
theorem dX1_holdsAll_20 : decode cX1_holdsAll 20 = .ok (.bipush 16, 2) := by decide +kernel
theorem dX1_holdsAll_22 : decode cX1_holdsAll 22 = .ok (.imul, 1) := by decide +kernel
theorem dX1_holdsAll_23 : decode cX1_holdsAll 23 = .ok (.aload_n 0, 1) := by decide +kernel
theorem dX1_holdsAll_24 : decode cX1_holdsAll 24 = .ok (.getfield 26, 3) := by decide +kernel
theorem dX1_holdsAll_27 : decode cX1_holdsAll 27 = .ok (.iload_n 2, 1) := by decide +kernel
theorem dX1_holdsAll_28 : decode cX1_holdsAll 28 = .ok (.iaload, 1) := by decide +kernel
theorem dX1_holdsAll_29 : decode cX1_holdsAll 29 = .ok (.iadd, 1) := by decide +kernel
theorem dX1_holdsAll_30 : decode cX1_holdsAll 30 = .ok (.baload, 1) := by decide +kernel
theorem dX1_holdsAll_31 : decode cX1_holdsAll 31 = .ok (.ifCond .ne 5, 3) := by decide +kernel
theorem dX1_holdsAll_34 : decode cX1_holdsAll 34 = .ok (.iconst 0, 1) := by decide +kernel
theorem dX1_holdsAll_35 : decode cX1_holdsAll 35 = .ok (.ireturn, 1) := by decide +kernel
theorem dX1_holdsAll_36 : decode cX1_holdsAll 36 = .ok (.iinc 2 1, 3) := by decide +kernel
theorem dX1_holdsAll_39 : decode cX1_holdsAll 39 = .ok (.goto (-32), 3) := by decide +kernel
theorem dX1_holdsAll_42 : decode cX1_holdsAll 42 = .ok (.iconst 1, 1) := by decide +kernel
theorem dX1_holdsAll_43 : decode cX1_holdsAll 43 = .ok (.ireturn, 1) := by decide +kernel
theorem dX1_isSafe_0 : decode cX1_isSafe 0 = .ok (.aload_n 0, 1) := by decide +kernel
theorem dX1_isSafe_1 : decode cX1_isSafe 1 = .ok (.getfield 15, 3) := by decide +kernel
theorem dX1_isSafe_4 : decode cX1_isSafe 4 = .ok (.aload_n 0, 1) := by decide +kernel
theorem dX1_isSafe_5 : decode cX1_isSafe 5 = .ok (.invokevirtual 89, 3) := by decide +kernel
theorem dX1_isSafe_8 : decode cX1_isSafe 8 = .ok (.iaload, 1) := by decide +kernel
theorem dX1_isSafe_9 : decode cX1_isSafe 9 = .ok (.bipush 16, 2) := by decide +kernel
theorem dX1_isSafe_11 : decode cX1_isSafe 11 = .ok (.iand, 1) := by decide +kernel
theorem dX1_isSafe_12 : decode cX1_isSafe 12 = .ok (.ifCond .eq 7, 3) := by decide +kernel
theorem dX1_isSafe_15 : decode cX1_isSafe 15 = .ok (.iconst 1, 1) := by decide +kernel
theorem dX1_isSafe_16 : decode cX1_isSafe 16 = .ok (.goto 4, 3) := by decide +kernel
theorem dX1_isSafe_19 : decode cX1_isSafe 19 = .ok (.iconst 0, 1) := by decide +kernel
theorem dX1_isSafe_20 : decode cX1_isSafe 20 = .ok (.ireturn, 1) := by decide +kernel
theorem dX1_reached_0 : decode cX1_reached 0 = .ok (.aload_n 0, 1) := by decide +kernel
theorem dX1_reached_1 : decode cX1_reached 1 = .ok (.getfield 19, 3) := by decide +kernel
theorem dX1_reached_4 : decode cX1_reached 4 = .ok (.iconst 0, 1) := by decide +kernel
theorem dX1_reached_5 : decode cX1_reached 5 = .ok (.invokestatic 114, 3) := by decide +kernel
theorem dX1_reached_8 : decode cX1_reached 8 = .ok (.aload_n 0, 1) := by decide +kernel
theorem dX1_reached_9 : decode cX1_reached 9 = .ok (.aload_n 1, 1) := by decide +kernel
theorem dX1_reached_10 : decode cX1_reached 10 = .ok (.invokevirtual 75, 3) := by decide +kernel
theorem dX1_reached_13 : decode cX1_reached 13 = .ok (.aload_n 0, 1) := by decide +kernel
theorem dX1_reached_14 : decode cX1_reached 14 = .ok (.invokevirtual 89, 3) := by decide +kernel
theorem dX1_reached_17 : decode cX1_reached 17 = .ok (.istore_n 3, 1) := by decide +kernel
theorem dX1_reached_18 : decode cX1_reached 18 = .ok (.aload_n 0, 1) := by decide +kernel
theorem dX1_reached_19 : decode cX1_reached 19 = .ok (.getfield 19, 3) := by decide +kernel
theorem dX1_reached_22 : decode cX1_reached 22 = .ok (.iload_n 3, 1) := by decide +kernel
theorem dX1_reached_23 : decode cX1_reached 23 = .ok (.iconst 1, 1) := by decide +kernel
theorem dX1_reached_24 : decode cX1_reached 24 = .ok (.bastore, 1) := by decide +kernel
theorem dX1_reached_25 : decode cX1_reached 25 = .ok (.iconst 0, 1) := by decide +kernel
theorem dX1_reached_26 : decode cX1_reached 26 = .ok (.istore 4, 2) := by decide +kernel
theorem dX1_reached_28 : decode cX1_reached 28 = .ok (.iload_n 3, 1) := by decide +kernel
theorem dX1_reached_29 : decode cX1_reached 29 = .ok (.istore 5, 2) := by decide +kernel
theorem dX1_reached_31 : decode cX1_reached 31 = .ok (.iload 5, 2) := by decide +kernel
theorem dX1_reached_33 : decode cX1_reached 33 = .ok (.ifCond .lt 53, 3) := by decide +kernel
theorem dX1_reached_36 : decode cX1_reached 36 = .ok (.aload_n 0, 1) := by decide +kernel
theorem dX1_reached_37 : decode cX1_reached 37 = .ok (.getfield 19, 3) := by decide +kernel
theorem dX1_reached_40 : decode cX1_reached 40 = .ok (.iload 5, 2) := by decide +kernel
theorem dX1_reached_42 : decode cX1_reached 42 = .ok (.baload, 1) := by decide +kernel
theorem dX1_reached_43 : decode cX1_reached 43 = .ok (.ifCond .eq 37, 3) := by decide +kernel
theorem dX1_reached_46 : decode cX1_reached 46 = .ok (.iload 4, 2) := by decide +kernel
theorem dX1_reached_48 : decode cX1_reached 48 = .ok (.iload_n 2, 1) := by decide +kernel
theorem dX1_reached_49 : decode cX1_reached 49 = .ok (.ifCond .eq 16, 3) := by decide +kernel
theorem dX1_reached_52 : decode cX1_reached 52 = .ok (.aload_n 0, 1) := by decide +kernel
theorem dX1_reached_53 : decode cX1_reached 53 = .ok (.getfield 15, 3) := by decide +kernel
theorem dX1_reached_56 : decode cX1_reached 56 = .ok (.iload 5, 2) := by decide +kernel
theorem dX1_reached_58 : decode cX1_reached 58 = .ok (.iaload, 1) := by decide +kernel
theorem dX1_reached_59 : decode cX1_reached 59 = .ok (.bipush 16, 2) := by decide +kernel
theorem dX1_reached_61 : decode cX1_reached 61 = .ok (.iand, 1) := by decide +kernel
theorem dX1_reached_62 : decode cX1_reached 62 = .ok (.ifCond .eq 7, 3) := by decide +kernel
theorem dX1_reached_65 : decode cX1_reached 65 = .ok (.iconst 1, 1) := by decide +kernel
theorem dX1_reached_66 : decode cX1_reached 66 = .ok (.goto 4, 3) := by decide +kernel
theorem dX1_reached_69 : decode cX1_reached 69 = .ok (.iconst 0, 1) := by decide +kernel
theorem dX1_reached_70 : decode cX1_reached 70 = .ok (.iadd, 1) := by decide +kernel
theorem dX1_reached_71 : decode cX1_reached 71 = .ok (.istore 4, 2) := by decide +kernel
theorem dX1_reached_73 : decode cX1_reached 73 = .ok (.aload_n 0, 1) := by decide +kernel
theorem dX1_reached_74 : decode cX1_reached 74 = .ok (.aload_n 1, 1) := by decide +kernel
theorem dX1_reached_75 : decode cX1_reached 75 = .ok (.iload 5, 2) := by decide +kernel
theorem dX1_reached_77 : decode cX1_reached 77 = .ok (.invokevirtual 117, 3) := by decide +kernel
theorem dX1_reached_80 : decode cX1_reached 80 = .ok (.iinc 5 (-1), 3) := by decide +kernel
theorem dX1_reached_83 : decode cX1_reached 83 = .ok (.goto (-52), 3) := by decide +kernel
theorem dX1_reached_86 : decode cX1_reached 86 = .ok (.iload 4, 2) := by decide +kernel
theorem dX1_reached_88 : decode cX1_reached 88 = .ok (.ireturn, 1) := by decide +kernel
theorem dX1_markNext_0 : decode cX1_markNext 0 = .ok (.iconst 0, 1) := by decide +kernel
theorem dX1_markNext_1 : decode cX1_markNext 1 = .ok (.istore_n 3, 1) := by decide +kernel
theorem dX1_markNext_2 : decode cX1_markNext 2 = .ok (.iload_n 3, 1) := by decide +kernel
theorem dX1_markNext_3 : decode cX1_markNext 3 = .ok (.iconst 4, 1) := by decide +kernel
theorem dX1_markNext_4 : decode cX1_markNext 4 = .ok (.if_icmp .ge 25, 3) := by decide +kernel
theorem dX1_markNext_7 : decode cX1_markNext 7 = .ok (.aload_n 0, 1) := by decide +kernel
theorem dX1_markNext_8 : decode cX1_markNext 8 = .ok (.getfield 23, 3) := by decide +kernel
theorem dX1_markNext_11 : decode cX1_markNext 11 = .ok (.iload_n 3, 1) := by decide +kernel
theorem dX1_markNext_12 : decode cX1_markNext 12 = .ok (.iload_n 2, 1) := by decide +kernel
theorem dX1_markNext_13 : decode cX1_markNext 13 = .ok (.getstatic 97, 3) := by decide +kernel
theorem dX1_markNext_16 : decode cX1_markNext 16 = .ok (.iload_n 3, 1) := by decide +kernel
theorem dX1_markNext_17 : decode cX1_markNext 17 = .ok (.iaload, 1) := by decide +kernel
theorem dX1_markNext_18 : decode cX1_markNext 18 = .ok (.idiv, 1) := by decide +kernel
theorem dX1_markNext_19 : decode cX1_markNext 19 = .ok (.bipush 6, 2) := by decide +kernel
theorem dX1_markNext_21 : decode cX1_markNext 21 = .ok (.irem, 1) := by decide +kernel
theorem dX1_markNext_22 : decode cX1_markNext 22 = .ok (.iastore, 1) := by decide +kernel
theorem dX1_markNext_23 : decode cX1_markNext 23 = .ok (.iinc 3 1, 3) := by decide +kernel
theorem dX1_markNext_26 : decode cX1_markNext 26 = .ok (.goto (-24), 3) := by decide +kernel
theorem dX1_markNext_29 : decode cX1_markNext 29 = .ok (.aload_n 0, 1) := by decide +kernel
theorem dX1_markNext_30 : decode cX1_markNext 30 = .ok (.aload_n 1, 1) := by decide +kernel
theorem dX1_markNext_31 : decode cX1_markNext 31 = .ok (.invokevirtual 86, 3) := by decide +kernel
theorem dX1_markNext_34 : decode cX1_markNext 34 = .ok (.iconst 0, 1) := by decide +kernel
theorem dX1_markNext_35 : decode cX1_markNext 35 = .ok (.istore_n 3, 1) := by decide +kernel
theorem dX1_markNext_36 : decode cX1_markNext 36 = .ok (.iload_n 3, 1) := by decide +kernel
theorem dX1_markNext_37 : decode cX1_markNext 37 = .ok (.aload_n 1, 1) := by decide +kernel
theorem dX1_markNext_38 : decode cX1_markNext 38 = .ok (.getfield 45, 3) := by decide +kernel
theorem dX1_markNext_41 : decode cX1_markNext 41 = .ok (.if_icmp .ge 31, 3) := by decide +kernel
theorem dX1_markNext_44 : decode cX1_markNext 44 = .ok (.aload_n 0, 1) := by decide +kernel
theorem dX1_markNext_45 : decode cX1_markNext 45 = .ok (.aload_n 1, 1) := by decide +kernel
theorem dX1_markNext_46 : decode cX1_markNext 46 = .ok (.iload_n 3, 1) := by decide +kernel
theorem dX1_markNext_47 : decode cX1_markNext 47 = .ok (.invokevirtual 93, 3) := by decide +kernel
theorem dX1_markNext_50 : decode cX1_markNext 50 = .ok (.ifCond .eq 16, 3) := by decide +kernel
theorem dX1_markNext_53 : decode cX1_markNext 53 = .ok (.aload_n 0, 1) := by decide +kernel
theorem dX1_markNext_54 : decode cX1_markNext 54 = .ok (.getfield 19, 3) := by decide +kernel
theorem dX1_markNext_57 : decode cX1_markNext 57 = .ok (.iload_n 2, 1) := by decide +kernel
theorem dX1_markNext_58 : decode cX1_markNext 58 = .ok (.getstatic 97, 3) := by decide +kernel
theorem dX1_markNext_61 : decode cX1_markNext 61 = .ok (.iload_n 3, 1) := by decide +kernel
theorem dX1_markNext_62 : decode cX1_markNext 62 = .ok (.iaload, 1) := by decide +kernel
theorem dX1_markNext_63 : decode cX1_markNext 63 = .ok (.isub, 1) := by decide +kernel
theorem dX1_markNext_64 : decode cX1_markNext 64 = .ok (.iconst 1, 1) := by decide +kernel
theorem dX1_markNext_65 : decode cX1_markNext 65 = .ok (.bastore, 1) := by decide +kernel
theorem dX1_markNext_66 : decode cX1_markNext 66 = .ok (.iinc 3 1, 3) := by decide +kernel
theorem dX1_markNext_69 : decode cX1_markNext 69 = .ok (.goto (-33), 3) := by decide +kernel
theorem dX1_markNext_72 : decode cX1_markNext 72 = .ok (.return_, 1) := by decide +kernel
theorem dX1_goOneByOne_0 : decode cX1_goOneByOne 0 = .ok (.aload_n 0, 1) := by decide +kernel
theorem dX1_goOneByOne_1 : decode cX1_goOneByOne 1 = .ok (.aload_n 1, 1) := by decide +kernel
theorem dX1_goOneByOne_2 : decode cX1_goOneByOne 2 = .ok (.invokevirtual 75, 3) := by decide +kernel
theorem dX1_goOneByOne_5 : decode cX1_goOneByOne 5 = .ok (.iconst 0, 1) := by decide +kernel
theorem dX1_goOneByOne_6 : decode cX1_goOneByOne 6 = .ok (.istore_n 2, 1) := by decide +kernel
theorem dX1_goOneByOne_7 : decode cX1_goOneByOne 7 = .ok (.iconst 0, 1) := by decide +kernel
theorem dX1_goOneByOne_8 : decode cX1_goOneByOne 8 = .ok (.istore_n 3, 1) := by decide +kernel
theorem dX1_goOneByOne_9 : decode cX1_goOneByOne 9 = .ok (.iload_n 3, 1) := by decide +kernel
theorem dX1_goOneByOne_10 : decode cX1_goOneByOne 10 = .ok (.aload_n 1, 1) := by decide +kernel
theorem dX1_goOneByOne_11 : decode cX1_goOneByOne 11 = .ok (.getfield 45, 3) := by decide +kernel
theorem dX1_goOneByOne_14 : decode cX1_goOneByOne 14 = .ok (.if_icmp .ge 34, 3) := by decide +kernel
theorem dX1_goOneByOne_17 : decode cX1_goOneByOne 17 = .ok (.aload_n 0, 1) := by decide +kernel
theorem dX1_goOneByOne_18 : decode cX1_goOneByOne 18 = .ok (.aload_n 1, 1) := by decide +kernel
theorem dX1_goOneByOne_19 : decode cX1_goOneByOne 19 = .ok (.invokevirtual 121, 3) := by decide +kernel
theorem dX1_goOneByOne_22 : decode cX1_goOneByOne 22 = .ok (.istore 4, 2) := by decide +kernel
theorem dX1_goOneByOne_24 : decode cX1_goOneByOne 24 = .ok (.iload 4, 2) := by decide +kernel
theorem dX1_goOneByOne_26 : decode cX1_goOneByOne 26 = .ok (.ifCond .ge 5, 3) := by decide +kernel
theorem dX1_goOneByOne_29 : decode cX1_goOneByOne 29 = .ok (.iload_n 2, 1) := by decide +kernel
theorem dX1_goOneByOne_30 : decode cX1_goOneByOne 30 = .ok (.ireturn, 1) := by decide +kernel
theorem dX1_goOneByOne_31 : decode cX1_goOneByOne 31 = .ok (.aload_n 0, 1) := by decide +kernel
theorem dX1_goOneByOne_32 : decode cX1_goOneByOne 32 = .ok (.getfield 29, 3) := by decide +kernel
theorem dX1_goOneByOne_35 : decode cX1_goOneByOne 35 = .ok (.iload_n 2, 1) := by decide +kernel
theorem dX1_goOneByOne_36 : decode cX1_goOneByOne 36 = .ok (.iload 4, 2) := by decide +kernel
theorem dX1_goOneByOne_38 : decode cX1_goOneByOne 38 = .ok (.iastore, 1) := by decide +kernel
theorem dX1_goOneByOne_39 : decode cX1_goOneByOne 39 = .ok (.iinc 2 1, 3) := by decide +kernel
theorem dX1_goOneByOne_42 : decode cX1_goOneByOne 42 = .ok (.iinc 3 1, 3) := by decide +kernel
theorem dX1_goOneByOne_45 : decode cX1_goOneByOne 45 = .ok (.goto (-36), 3) := by decide +kernel
theorem dX1_goOneByOne_48 : decode cX1_goOneByOne 48 = .ok (.iload_n 2, 1) := by decide +kernel
theorem dX1_goOneByOne_49 : decode cX1_goOneByOne 49 = .ok (.ireturn, 1) := by decide +kernel
theorem dX1_firstToGoAlone_0 : decode cX1_firstToGoAlone 0 = .ok (.iconst 0, 1) := by decide +kernel
theorem dX1_firstToGoAlone_1 : decode cX1_firstToGoAlone 1 = .ok (.istore_n 2, 1) := by decide +kernel
theorem dX1_firstToGoAlone_2 : decode cX1_firstToGoAlone 2 = .ok (.iload_n 2, 1) := by decide +kernel
theorem dX1_firstToGoAlone_3 : decode cX1_firstToGoAlone 3 = .ok (.aload_n 1, 1) := by decide +kernel
theorem dX1_firstToGoAlone_4 : decode cX1_firstToGoAlone 4 = .ok (.getfield 45, 3) := by decide +kernel
theorem dX1_firstToGoAlone_7 : decode cX1_firstToGoAlone 7 = .ok (.if_icmp .ge 29, 3) := by decide +kernel
theorem dX1_firstToGoAlone_10 : decode cX1_firstToGoAlone 10 = .ok (.aload_n 0, 1) := by decide +kernel
theorem dX1_firstToGoAlone_11 : decode cX1_firstToGoAlone 11 = .ok (.getfield 23, 3) := by decide +kernel
theorem dX1_firstToGoAlone_14 : decode cX1_firstToGoAlone 14 = .ok (.iload_n 2, 1) := by decide +kernel
theorem dX1_firstToGoAlone_15 : decode cX1_firstToGoAlone 15 = .ok (.iaload, 1) := by decide +kernel
theorem dX1_firstToGoAlone_16 : decode cX1_firstToGoAlone 16 = .ok (.ifCond .le 14, 3) := by decide +kernel
theorem dX1_firstToGoAlone_19 : decode cX1_firstToGoAlone 19 = .ok (.aload_n 0, 1) := by decide +kernel
theorem dX1_firstToGoAlone_20 : decode cX1_firstToGoAlone 20 = .ok (.aload_n 1, 1) := by decide +kernel
theorem dX1_firstToGoAlone_21 : decode cX1_firstToGoAlone 21 = .ok (.iload_n 2, 1) := by decide +kernel
theorem dX1_firstToGoAlone_22 : decode cX1_firstToGoAlone 22 = .ok (.invokevirtual 125, 3) := by decide +kernel
theorem dX1_firstToGoAlone_25 : decode cX1_firstToGoAlone 25 = .ok (.ifCond .eq 5, 3) := by decide +kernel
theorem dX1_firstToGoAlone_28 : decode cX1_firstToGoAlone 28 = .ok (.iload_n 2, 1) := by decide +kernel
theorem dX1_firstToGoAlone_29 : decode cX1_firstToGoAlone 29 = .ok (.ireturn, 1) := by decide +kernel
theorem dX1_firstToGoAlone_30 : decode cX1_firstToGoAlone 30 = .ok (.iinc 2 1, 3) := by decide +kernel
theorem dX1_firstToGoAlone_33 : decode cX1_firstToGoAlone 33 = .ok (.goto (-31), 3) := by decide +kernel
theorem dX1_firstToGoAlone_36 : decode cX1_firstToGoAlone 36 = .ok (.bipush (-4), 2) := by decide +kernel
theorem dX1_firstToGoAlone_38 : decode cX1_firstToGoAlone 38 = .ok (.ireturn, 1) := by decide +kernel
theorem dX1_goesAlone_0 : decode cX1_goesAlone 0 = .ok (.aload_n 0, 1) := by decide +kernel
theorem dX1_goesAlone_1 : decode cX1_goesAlone 1 = .ok (.getfield 23, 3) := by decide +kernel
theorem dX1_goesAlone_4 : decode cX1_goesAlone 4 = .ok (.iload_n 2, 1) := by decide +kernel
theorem dX1_goesAlone_5 : decode cX1_goesAlone 5 = .ok (.iaload, 1) := by decide +kernel
theorem dX1_goesAlone_6 : decode cX1_goesAlone 6 = .ok (.istore_n 3, 1) := by decide +kernel
theorem dX1_goesAlone_7 : decode cX1_goesAlone 7 = .ok (.iconst 0, 1) := by decide +kernel
theorem dX1_goesAlone_8 : decode cX1_goesAlone 8 = .ok (.istore 4, 2) := by decide +kernel
theorem dX1_goesAlone_10 : decode cX1_goesAlone 10 = .ok (.iload 4, 2) := by decide +kernel
theorem dX1_goesAlone_12 : decode cX1_goesAlone 12 = .ok (.iload_n 3, 1) := by decide +kernel
theorem dX1_goesAlone_13 : decode cX1_goesAlone 13 = .ok (.if_icmp .ge 28, 3) := by decide +kernel
theorem dX1_goesAlone_16 : decode cX1_goesAlone 16 = .ok (.aload_n 0, 1) := by decide +kernel
theorem dX1_goesAlone_17 : decode cX1_goesAlone 17 = .ok (.aload_n 1, 1) := by decide +kernel
theorem dX1_goesAlone_18 : decode cX1_goesAlone 18 = .ok (.iload_n 2, 1) := by decide +kernel
theorem dX1_goesAlone_19 : decode cX1_goesAlone 19 = .ok (.invokevirtual 93, 3) := by decide +kernel
theorem dX1_goesAlone_22 : decode cX1_goesAlone 22 = .ok (.ifCond .eq 19, 3) := by decide +kernel
theorem dX1_goesAlone_25 : decode cX1_goesAlone 25 = .ok (.aload_n 0, 1) := by decide +kernel
theorem dX1_goesAlone_26 : decode cX1_goesAlone 26 = .ok (.getfield 23, 3) := by decide +kernel
theorem dX1_goesAlone_29 : decode cX1_goesAlone 29 = .ok (.iload_n 2, 1) := by decide +kernel
theorem dX1_goesAlone_30 : decode cX1_goesAlone 30 = .ok (.dup2, 1) := by decide +kernel
theorem dX1_goesAlone_31 : decode cX1_goesAlone 31 = .ok (.iaload, 1) := by decide +kernel
theorem dX1_goesAlone_32 : decode cX1_goesAlone 32 = .ok (.iconst 1, 1) := by decide +kernel
theorem dX1_goesAlone_33 : decode cX1_goesAlone 33 = .ok (.isub, 1) := by decide +kernel
theorem dX1_goesAlone_34 : decode cX1_goesAlone 34 = .ok (.iastore, 1) := by decide +kernel
theorem dX1_goesAlone_35 : decode cX1_goesAlone 35 = .ok (.iinc 4 1, 3) := by decide +kernel
theorem dX1_goesAlone_38 : decode cX1_goesAlone 38 = .ok (.goto (-28), 3) := by decide +kernel
theorem dX1_goesAlone_41 : decode cX1_goesAlone 41 = .ok (.aload_n 0, 1) := by decide +kernel
theorem dX1_goesAlone_42 : decode cX1_goesAlone 42 = .ok (.getfield 23, 3) := by decide +kernel
theorem dX1_goesAlone_45 : decode cX1_goesAlone 45 = .ok (.iload_n 2, 1) := by decide +kernel
theorem dX1_goesAlone_46 : decode cX1_goesAlone 46 = .ok (.iaload, 1) := by decide +kernel
theorem dX1_goesAlone_47 : decode cX1_goesAlone 47 = .ok (.ifCond .ne 7, 3) := by decide +kernel
theorem dX1_goesAlone_50 : decode cX1_goesAlone 50 = .ok (.iconst 1, 1) := by decide +kernel
theorem dX1_goesAlone_51 : decode cX1_goesAlone 51 = .ok (.goto 4, 3) := by decide +kernel
theorem dX1_goesAlone_54 : decode cX1_goesAlone 54 = .ok (.iconst 0, 1) := by decide +kernel
theorem dX1_goesAlone_55 : decode cX1_goesAlone 55 = .ok (.istore 4, 2) := by decide +kernel
theorem dX1_goesAlone_57 : decode cX1_goesAlone 57 = .ok (.iload 4, 2) := by decide +kernel
theorem dX1_goesAlone_59 : decode cX1_goesAlone 59 = .ok (.ifCond .ne 10, 3) := by decide +kernel
theorem dX1_goesAlone_62 : decode cX1_goesAlone 62 = .ok (.aload_n 0, 1) := by decide +kernel
theorem dX1_goesAlone_63 : decode cX1_goesAlone 63 = .ok (.getfield 23, 3) := by decide +kernel
theorem dX1_goesAlone_66 : decode cX1_goesAlone 66 = .ok (.iload_n 2, 1) := by decide +kernel
theorem dX1_goesAlone_67 : decode cX1_goesAlone 67 = .ok (.iload_n 3, 1) := by decide +kernel
theorem dX1_goesAlone_68 : decode cX1_goesAlone 68 = .ok (.iastore, 1) := by decide +kernel
theorem dX1_goesAlone_69 : decode cX1_goesAlone 69 = .ok (.aload_n 0, 1) := by decide +kernel
theorem dX1_goesAlone_70 : decode cX1_goesAlone 70 = .ok (.aload_n 1, 1) := by decide +kernel
theorem dX1_goesAlone_71 : decode cX1_goesAlone 71 = .ok (.invokevirtual 86, 3) := by decide +kernel
theorem dX1_goesAlone_74 : decode cX1_goesAlone 74 = .ok (.iload 4, 2) := by decide +kernel
theorem dX1_goesAlone_76 : decode cX1_goesAlone 76 = .ok (.ireturn, 1) := by decide +kernel
