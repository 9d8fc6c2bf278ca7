theorem dX0_init_0 : decode cX0_init 0 = .ok (.aload_n 0, 1) := by decide +kernel
theorem dX0_init_1 : decode cX0_init 1 = .ok (.invokespecial 3, 3) := by decide +kernel
theorem dX0_init_4 : decode cX0_init 4 = .ok (.aload_n 0, 1) := by decide +kernel
theorem dX0_init_5 : decode cX0_init 5 = .ok (.bipush 12, 2) := by decide +kernel
theorem dX0_init_7 : decode cX0_init 7 = .ok (.newarray .int, 2) := by decide +kernel
theorem dX0_init_9 : decode cX0_init 9 = .ok (.putfield 9, 3) := by decide +kernel
theorem dX0_init_12 : decode cX0_init 12 = .ok (.aload_n 0, 1) := by decide +kernel
theorem dX0_init_13 : decode cX0_init 13 = .ok (.sipush 1681, 3) := by decide +kernel
theorem dX0_init_16 : decode cX0_init 16 = .ok (.newarray .int, 2) := by decide +kernel
theorem dX0_init_18 : decode cX0_init 18 = .ok (.putfield 15, 3) := by decide +kernel
theorem dX0_init_21 : decode cX0_init 21 = .ok (.aload_n 0, 1) := by decide +kernel
theorem dX0_init_22 : decode cX0_init 22 = .ok (.bipush 123, 2) := by decide +kernel
theorem dX0_init_24 : decode cX0_init 24 = .ok (.newarray .int, 2) := by decide +kernel
theorem dX0_init_26 : decode cX0_init 26 = .ok (.putfield 18, 3) := by decide +kernel
theorem dX0_init_29 : decode cX0_init 29 = .ok (.aload_n 0, 1) := by decide +kernel
theorem dX0_init_30 : decode cX0_init 30 = .ok (.iconst 3, 1) := by decide +kernel
theorem dX0_init_31 : decode cX0_init 31 = .ok (.newarray .boolean, 2) := by decide +kernel
theorem dX0_init_33 : decode cX0_init 33 = .ok (.putfield 21, 3) := by decide +kernel
theorem dX0_init_36 : decode cX0_init 36 = .ok (.aload_n 0, 1) := by decide +kernel
theorem dX0_init_37 : decode cX0_init 37 = .ok (.aload_n 1, 1) := by decide +kernel
theorem dX0_init_38 : decode cX0_init 38 = .ok (.putfield 25, 3) := by decide +kernel
theorem dX0_init_41 : decode cX0_init 41 = .ok (.aload_n 0, 1) := by decide +kernel
theorem dX0_init_42 : decode cX0_init 42 = .ok (.new 29, 3) := by decide +kernel
theorem dX0_init_45 : decode cX0_init 45 = .ok (.dup, 1) := by decide +kernel
theorem dX0_init_46 : decode cX0_init 46 = .ok (.aload_n 1, 1) := by decide +kernel
theorem dX0_init_47 : decode cX0_init 47 = .ok (.invokespecial 31, 3) := by decide +kernel
theorem dX0_init_50 : decode cX0_init 50 = .ok (.putfield 34, 3) := by decide +kernel
theorem dX0_init_53 : decode cX0_init 53 = .ok (.aload_n 0, 1) := by decide +kernel
theorem dX0_init_54 : decode cX0_init 54 = .ok (.invokevirtual 38, 3) := by decide +kernel
theorem dX0_init_57 : decode cX0_init 57 = .ok (.return_, 1) := by decide +kernel
theorem dX0_beginAnew_0 : decode cX0_beginAnew 0 = .ok (.iconst 0, 1) := by decide +kernel
theorem dX0_beginAnew_1 : decode cX0_beginAnew 1 = .ok (.istore_n 1, 1) := by decide +kernel
theorem dX0_beginAnew_2 : decode cX0_beginAnew 2 = .ok (.iload_n 1, 1) := by decide +kernel
theorem dX0_beginAnew_3 : decode cX0_beginAnew 3 = .ok (.aload_n 0, 1) := by decide +kernel
theorem dX0_beginAnew_4 : decode cX0_beginAnew 4 = .ok (.getfield 9, 3) := by decide +kernel
theorem dX0_beginAnew_7 : decode cX0_beginAnew 7 = .ok (.arraylength, 1) := by decide +kernel
theorem dX0_beginAnew_8 : decode cX0_beginAnew 8 = .ok (.if_icmp .ge 41, 3) := by decide +kernel
theorem dX0_beginAnew_11 : decode cX0_beginAnew 11 = .ok (.aload_n 0, 1) := by decide +kernel
theorem dX0_beginAnew_12 : decode cX0_beginAnew 12 = .ok (.getfield 9, 3) := by decide +kernel
theorem dX0_beginAnew_15 : decode cX0_beginAnew 15 = .ok (.iload_n 1, 1) := by decide +kernel
theorem dX0_beginAnew_16 : decode cX0_beginAnew 16 = .ok (.iload_n 1, 1) := by decide +kernel
theorem dX0_beginAnew_17 : decode cX0_beginAnew 17 = .ok (.iconst 2, 1) := by decide +kernel
theorem dX0_beginAnew_18 : decode cX0_beginAnew 18 = .ok (.aload_n 0, 1) := by decide +kernel
theorem dX0_beginAnew_19 : decode cX0_beginAnew 19 = .ok (.getfield 25, 3) := by decide +kernel
theorem dX0_beginAnew_22 : decode cX0_beginAnew 22 = .ok (.getfield 41, 3) := by decide +kernel
theorem dX0_beginAnew_25 : decode cX0_beginAnew 25 = .ok (.imul, 1) := by decide +kernel
theorem dX0_beginAnew_26 : decode cX0_beginAnew 26 = .ok (.if_icmp .ge 15, 3) := by decide +kernel
theorem dX0_beginAnew_29 : decode cX0_beginAnew 29 = .ok (.aload_n 0, 1) := by decide +kernel
theorem dX0_beginAnew_30 : decode cX0_beginAnew 30 = .ok (.getfield 25, 3) := by decide +kernel
theorem dX0_beginAnew_33 : decode cX0_beginAnew 33 = .ok (.getfield 47, 3) := by decide +kernel
theorem dX0_beginAnew_36 : decode cX0_beginAnew 36 = .ok (.iload_n 1, 1) := by decide +kernel
theorem dX0_beginAnew_37 : decode cX0_beginAnew 37 = .ok (.iaload, 1) := by decide +kernel
theorem dX0_beginAnew_38 : decode cX0_beginAnew 38 = .ok (.goto 4, 3) := by decide +kernel
theorem dX0_beginAnew_41 : decode cX0_beginAnew 41 = .ok (.iconst 0, 1) := by decide +kernel
theorem dX0_beginAnew_42 : decode cX0_beginAnew 42 = .ok (.iastore, 1) := by decide +kernel
theorem dX0_beginAnew_43 : decode cX0_beginAnew 43 = .ok (.iinc 1 1, 3) := by decide +kernel
theorem dX0_beginAnew_46 : decode cX0_beginAnew 46 = .ok (.goto (-44), 3) := by decide +kernel
theorem dX0_beginAnew_49 : decode cX0_beginAnew 49 = .ok (.aload_n 0, 1) := by decide +kernel
theorem dX0_beginAnew_50 : decode cX0_beginAnew 50 = .ok (.aload_n 0, 1) := by decide +kernel
theorem dX0_beginAnew_51 : decode cX0_beginAnew 51 = .ok (.getfield 25, 3) := by decide +kernel
theorem dX0_beginAnew_54 : decode cX0_beginAnew 54 = .ok (.getfield 48, 3) := by decide +kernel
theorem dX0_beginAnew_57 : decode cX0_beginAnew 57 = .ok (.putfield 51, 3) := by decide +kernel
theorem dX0_beginAnew_60 : decode cX0_beginAnew 60 = .ok (.aload_n 0, 1) := by decide +kernel
theorem dX0_beginAnew_61 : decode cX0_beginAnew 61 = .ok (.iconst 0, 1) := by decide +kernel
theorem dX0_beginAnew_62 : decode cX0_beginAnew 62 = .ok (.putfield 54, 3) := by decide +kernel
theorem dX0_beginAnew_65 : decode cX0_beginAnew 65 = .ok (.aload_n 0, 1) := by decide +kernel
theorem dX0_beginAnew_66 : decode cX0_beginAnew 66 = .ok (.iconst (-1), 1) := by decide +kernel
theorem dX0_beginAnew_67 : decode cX0_beginAnew 67 = .ok (.putfield 58, 3) := by decide +kernel
theorem dX0_beginAnew_70 : decode cX0_beginAnew 70 = .ok (.aload_n 0, 1) := by decide +kernel
theorem dX0_beginAnew_71 : decode cX0_beginAnew 71 = .ok (.iconst (-1), 1) := by decide +kernel
theorem dX0_beginAnew_72 : decode cX0_beginAnew 72 = .ok (.putfield 61, 3) := by decide +kernel
theorem dX0_beginAnew_75 : decode cX0_beginAnew 75 = .ok (.aload_n 0, 1) := by decide +kernel
theorem dX0_beginAnew_76 : decode cX0_beginAnew 76 = .ok (.iconst 0, 1) := by decide +kernel
theorem dX0_beginAnew_77 : decode cX0_beginAnew 77 = .ok (.putfield 64, 3) := by decide +kernel
theorem dX0_beginAnew_80 : decode cX0_beginAnew 80 = .ok (.iconst 0, 1) := by decide +kernel
theorem dX0_beginAnew_81 : decode cX0_beginAnew 81 = .ok (.istore_n 1, 1) := by decide +kernel
theorem dX0_beginAnew_82 : decode cX0_beginAnew 82 = .ok (.iload_n 1, 1) := by decide +kernel
theorem dX0_beginAnew_83 : decode cX0_beginAnew 83 = .ok (.iconst 3, 1) := by decide +kernel
theorem dX0_beginAnew_84 : decode cX0_beginAnew 84 = .ok (.if_icmp .ge 16, 3) := by decide +kernel
theorem dX0_beginAnew_87 : decode cX0_beginAnew 87 = .ok (.aload_n 0, 1) := by decide +kernel
theorem dX0_beginAnew_88 : decode cX0_beginAnew 88 = .ok (.getfield 21, 3) := by decide +kernel
theorem dX0_beginAnew_91 : decode cX0_beginAnew 91 = .ok (.iload_n 1, 1) := by decide +kernel
theorem dX0_beginAnew_92 : decode cX0_beginAnew 92 = .ok (.iconst 0, 1) := by decide +kernel
theorem dX0_beginAnew_93 : decode cX0_beginAnew 93 = .ok (.bastore, 1) := by decide +kernel
theorem dX0_beginAnew_94 : decode cX0_beginAnew 94 = .ok (.iinc 1 1, 3) := by decide +kernel
theorem dX0_beginAnew_97 : decode cX0_beginAnew 97 = .ok (.goto (-15), 3) := by decide +kernel
theorem dX0_beginAnew_100 : decode cX0_beginAnew 100 = .ok (.aload_n 0, 1) := by decide +kernel
theorem dX0_beginAnew_101 : decode cX0_beginAnew 101 = .ok (.invokevirtual 67, 3) := by decide +kernel
theorem dX0_beginAnew_104 : decode cX0_beginAnew 104 = .ok (.return_, 1) := by decide +kernel
theorem dX0_beginWalk_0 : decode cX0_beginWalk 0 = .ok (.aload_n 0, 1) := by decide +kernel
theorem dX0_beginWalk_1 : decode cX0_beginWalk 1 = .ok (.getfield 34, 3) := by decide +kernel
theorem dX0_beginWalk_4 : decode cX0_beginWalk 4 = .ok (.iload_n 1, 1) := by decide +kernel
theorem dX0_beginWalk_5 : decode cX0_beginWalk 5 = .ok (.invokevirtual 70, 3) := by decide +kernel
theorem dX0_beginWalk_8 : decode cX0_beginWalk 8 = .ok (.aload_n 0, 1) := by decide +kernel
theorem dX0_beginWalk_9 : decode cX0_beginWalk 9 = .ok (.iconst 1, 1) := by decide +kernel
theorem dX0_beginWalk_10 : decode cX0_beginWalk 10 = .ok (.putfield 54, 3) := by decide +kernel
theorem dX0_beginWalk_13 : decode cX0_beginWalk 13 = .ok (.aload_n 0, 1) := by decide +kernel
theorem dX0_beginWalk_14 : decode cX0_beginWalk 14 = .ok (.iload_n 2, 1) := by decide +kernel
theorem dX0_beginWalk_15 : decode cX0_beginWalk 15 = .ok (.putfield 58, 3) := by decide +kernel
theorem dX0_beginWalk_18 : decode cX0_beginWalk 18 = .ok (.aload_n 0, 1) := by decide +kernel
theorem dX0_beginWalk_19 : decode cX0_beginWalk 19 = .ok (.iconst (-1), 1) := by decide +kernel
theorem dX0_beginWalk_20 : decode cX0_beginWalk 20 = .ok (.putfield 61, 3) := by decide +kernel
theorem dX0_beginWalk_23 : decode cX0_beginWalk 23 = .ok (.aload_n 0, 1) := by decide +kernel
theorem dX0_beginWalk_24 : decode cX0_beginWalk 24 = .ok (.iconst 0, 1) := by decide +kernel
theorem dX0_beginWalk_25 : decode cX0_beginWalk 25 = .ok (.putfield 64, 3) := by decide +kernel
theorem dX0_beginWalk_28 : decode cX0_beginWalk 28 = .ok (.aload_n 0, 1) := by decide +kernel
theorem dX0_beginWalk_29 : decode cX0_beginWalk 29 = .ok (.invokevirtual 74, 3) := by decide +kernel
theorem dX0_beginWalk_32 : decode cX0_beginWalk 32 = .ok (.return_, 1) := by decide +kernel
theorem dX0_takeWay_0 : decode cX0_takeWay 0 = .ok (.aload_n 0, 1) := by decide +kernel
theorem dX0_takeWay_1 : decode cX0_takeWay 1 = .ok (.getfield 54, 3) := by decide +kernel
theorem dX0_takeWay_4 : decode cX0_takeWay 4 = .ok (.ifCond .eq 37, 3) := by decide +kernel
theorem dX0_takeWay_7 : decode cX0_takeWay 7 = .ok (.aload_n 0, 1) := by decide +kernel
theorem dX0_takeWay_8 : decode cX0_takeWay 8 = .ok (.getfield 61, 3) := by decide +kernel
theorem dX0_takeWay_11 : decode cX0_takeWay 11 = .ok (.iconst (-1), 1) := by decide +kernel
theorem dX0_takeWay_12 : decode cX0_takeWay 12 = .ok (.if_icmp .ne 29, 3) := by decide +kernel
theorem dX0_takeWay_15 : decode cX0_takeWay 15 = .ok (.aload_n 0, 1) := by decide +kernel
theorem dX0_takeWay_16 : decode cX0_takeWay 16 = .ok (.getfield 34, 3) := by decide +kernel
theorem dX0_takeWay_19 : decode cX0_takeWay 19 = .ok (.invokevirtual 77, 3) := by decide +kernel
theorem dX0_takeWay_22 : decode cX0_takeWay 22 = .ok (.ifCond .ne 19, 3) := by decide +kernel
theorem dX0_takeWay_25 : decode cX0_takeWay 25 = .ok (.aload_n 0, 1) := by decide +kernel
theorem dX0_takeWay_26 : decode cX0_takeWay 26 = .ok (.getfield 25, 3) := by decide +kernel
theorem dX0_takeWay_29 : decode cX0_takeWay 29 = .ok (.iload_n 1, 1) := by decide +kernel
theorem dX0_takeWay_30 : decode cX0_takeWay 30 = .ok (.aload_n 0, 1) := by decide +kernel
theorem dX0_takeWay_31 : decode cX0_takeWay 31 = .ok (.getfield 58, 3) := by decide +kernel
theorem dX0_takeWay_34 : decode cX0_takeWay 34 = .ok (.invokevirtual 81, 3) := by decide +kernel
theorem dX0_takeWay_37 : decode cX0_takeWay 37 = .ok (.iconst (-1), 1) := by decide +kernel
theorem dX0_takeWay_38 : decode cX0_takeWay 38 = .ok (.if_icmp .ne 5, 3) := by decide +kernel
theorem dX0_takeWay_41 : decode cX0_takeWay 41 = .ok (.iconst (-1), 1) := by decide +kernel
theorem dX0_takeWay_42 : decode cX0_takeWay 42 = .ok (.ireturn, 1) := by decide +kernel
theorem dX0_takeWay_43 : decode cX0_takeWay 43 = .ok (.aload_n 0, 1) := by decide +kernel
theorem dX0_takeWay_44 : decode cX0_takeWay 44 = .ok (.iload_n 1, 1) := by decide +kernel
theorem dX0_takeWay_45 : decode cX0_takeWay 45 = .ok (.putfield 61, 3) := by decide +kernel
theorem dX0_takeWay_48 : decode cX0_takeWay 48 = .ok (.aload_n 0, 1) := by decide +kernel
theorem dX0_takeWay_49 : decode cX0_takeWay 49 = .ok (.iconst 0, 1) := by decide +kernel
theorem dX0_takeWay_50 : decode cX0_takeWay 50 = .ok (.putfield 64, 3) := by decide +kernel
theorem dX0_takeWay_53 : decode cX0_takeWay 53 = .ok (.aload_n 0, 1) := by decide +kernel
theorem dX0_takeWay_54 : decode cX0_takeWay 54 = .ok (.invokevirtual 74, 3) := by decide +kernel
theorem dX0_takeWay_57 : decode cX0_takeWay 57 = .ok (.aload_n 0, 1) := by decide +kernel
theorem dX0_takeWay_58 : decode cX0_takeWay 58 = .ok (.getfield 25, 3) := by decide +kernel
theorem dX0_takeWay_61 : decode cX0_takeWay 61 = .ok (.getfield 85, 3) := by decide +kernel
theorem dX0_takeWay_64 : decode cX0_takeWay 64 = .ok (.iload_n 1, 1) := by decide +kernel
theorem dX0_takeWay_65 : decode cX0_takeWay 65 = .ok (.iaload, 1) := by decide +kernel
theorem dX0_takeWay_66 : decode cX0_takeWay 66 = .ok (.ireturn, 1) := by decide +kernel
theorem dX0_sayWords_0 : decode cX0_sayWords 0 = .ok (.aload_n 0, 1) := by decide +kernel
theorem dX0_sayWords_1 : decode cX0_sayWords 1 = .ok (.getfield 54, 3) := by decide +kernel
theorem dX0_sayWords_4 : decode cX0_sayWords 4 = .ok (.ifCond .ne 5, 3) := by decide +kernel
theorem dX0_sayWords_7 : decode cX0_sayWords 7 = .ok (.iconst (-1), 1) := by decide +kernel
theorem dX0_sayWords_8 : decode cX0_sayWords 8 = .ok (.ireturn, 1) := by decide +kernel
theorem dX0_sayWords_9 : decode cX0_sayWords 9 = .ok (.iconst 0, 1) := by decide +kernel
theorem dX0_sayWords_10 : decode cX0_sayWords 10 = .ok (.istore_n 2, 1) := by decide +kernel
theorem dX0_sayWords_11 : decode cX0_sayWords 11 = .ok (.iload_n 2, 1) := by decide +kernel
theorem dX0_sayWords_12 : decode cX0_sayWords 12 = .ok (.iload_n 1, 1) := by decide +kernel
theorem dX0_sayWords_13 : decode cX0_sayWords 13 = .ok (.if_icmp .ge 37, 3) := by decide +kernel
theorem dX0_sayWords_16 : decode cX0_sayWords 16 = .ok (.aload_n 0, 1) := by decide +kernel
theorem dX0_sayWords_17 : decode cX0_sayWords 17 = .ok (.getfield 25, 3) := by decide +kernel
theorem dX0_sayWords_20 : decode cX0_sayWords 20 = .ok (.aload_n 0, 1) := by decide +kernel
theorem dX0_sayWords_21 : decode cX0_sayWords 21 = .ok (.getfield 61, 3) := by decide +kernel
theorem dX0_sayWords_24 : decode cX0_sayWords 24 = .ok (.invokevirtual 88, 3) := by decide +kernel
theorem dX0_sayWords_27 : decode cX0_sayWords 27 = .ok (.ifCond .eq 23, 3) := by decide +kernel
theorem dX0_sayWords_30 : decode cX0_sayWords 30 = .ok (.aload_n 0, 1) := by decide +kernel
theorem dX0_sayWords_31 : decode cX0_sayWords 31 = .ok (.getfield 34, 3) := by decide +kernel
theorem dX0_sayWords_34 : decode cX0_sayWords 34 = .ok (.invokevirtual 77, 3) := by decide +kernel
theorem dX0_sayWords_37 : decode cX0_sayWords 37 = .ok (.ifCond .ne 13, 3) := by decide +kernel
theorem dX0_sayWords_40 : decode cX0_sayWords 40 = .ok (.aload_n 0, 1) := by decide +kernel
theorem dX0_sayWords_41 : decode cX0_sayWords 41 = .ok (.invokevirtual 92, 3) := by decide +kernel
theorem dX0_sayWords_44 : decode cX0_sayWords 44 = .ok (.iinc 2 1, 3) := by decide +kernel
theorem dX0_sayWords_47 : decode cX0_sayWords 47 = .ok (.goto (-36), 3) := by decide +kernel
theorem dX0_sayWords_50 : decode cX0_sayWords 50 = .ok (.aload_n 0, 1) := by decide +kernel
theorem dX0_sayWords_51 : decode cX0_sayWords 51 = .ok (.invokevirtual 74, 3) := by decide +kernel
theorem dX0_sayWords_54 : decode cX0_sayWords 54 = .ok (.iload_n 2, 1) := by decide +kernel
theorem dX0_sayWords_55 : decode cX0_sayWords 55 = .ok (.ireturn, 1) := by decide +kernel
theorem dX0_sayOne_0 : decode cX0_sayOne 0 = .ok (.aload_n 0, 1) := by decide +kernel
theorem dX0_sayOne_1 : decode cX0_sayOne 1 = .ok (.getfield 25, 3) := by decide +kernel
theorem dX0_sayOne_4 : decode cX0_sayOne 4 = .ok (.aload_n 0, 1) := by decide +kernel
theorem dX0_sayOne_5 : decode cX0_sayOne 5 = .ok (.getfield 61, 3) := by decide +kernel
theorem dX0_sayOne_8 : decode cX0_sayOne 8 = .ok (.aload_n 0, 1) := by decide +kernel
theorem dX0_sayOne_9 : decode cX0_sayOne 9 = .ok (.getfield 58, 3) := by decide +kernel
theorem dX0_sayOne_12 : decode cX0_sayOne 12 = .ok (.invokevirtual 81, 3) := by decide +kernel
theorem dX0_sayOne_15 : decode cX0_sayOne 15 = .ok (.istore_n 1, 1) := by decide +kernel
theorem dX0_sayOne_16 : decode cX0_sayOne 16 = .ok (.aload_n 0, 1) := by decide +kernel
theorem dX0_sayOne_17 : decode cX0_sayOne 17 = .ok (.dup, 1) := by decide +kernel
theorem dX0_sayOne_18 : decode cX0_sayOne 18 = .ok (.getfield 64, 3) := by decide +kernel
theorem dX0_sayOne_21 : decode cX0_sayOne 21 = .ok (.iconst 1, 1) := by decide +kernel
theorem dX0_sayOne_22 : decode cX0_sayOne 22 = .ok (.iadd, 1) := by decide +kernel
theorem dX0_sayOne_23 : decode cX0_sayOne 23 = .ok (.putfield 64, 3) := by decide +kernel
theorem dX0_sayOne_26 : decode cX0_sayOne 26 = .ok (.aload_n 0, 1) := by decide +kernel
theorem dX0_sayOne_27 : decode cX0_sayOne 27 = .ok (.getfield 34, 3) := by decide +kernel
theorem dX0_sayOne_30 : decode cX0_sayOne 30 = .ok (.aload_n 0, 1) := by decide +kernel
theorem dX0_sayOne_31 : decode cX0_sayOne 31 = .ok (.getfield 9, 3) := by decide +kernel
theorem dX0_sayOne_34 : decode cX0_sayOne 34 = .ok (.aload_n 0, 1) := by decide +kernel
theorem dX0_sayOne_35 : decode cX0_sayOne 35 = .ok (.getfield 61, 3) := by decide +kernel
theorem dX0_sayOne_38 : decode cX0_sayOne 38 = .ok (.aload_n 0, 1) := by decide +kernel
theorem dX0_sayOne_39 : decode cX0_sayOne 39 = .ok (.getfield 64, 3) := by decide +kernel
theorem dX0_sayOne_42 : decode cX0_sayOne 42 = .ok (.iload_n 1, 1) := by decide +kernel
theorem dX0_sayOne_43 : decode cX0_sayOne 43 = .ok (.invokevirtual 95, 3) := by decide +kernel
theorem dX0_sayOne_46 : decode cX0_sayOne 46 = .ok (.aload_n 0, 1) := by decide +kernel
theorem dX0_sayOne_47 : decode cX0_sayOne 47 = .ok (.getfield 25, 3) := by decide +kernel
theorem dX0_sayOne_50 : decode cX0_sayOne 50 = .ok (.aload_n 0, 1) := by decide +kernel
theorem dX0_sayOne_51 : decode cX0_sayOne 51 = .ok (.getfield 61, 3) := by decide +kernel
theorem dX0_sayOne_54 : decode cX0_sayOne 54 = .ok (.invokevirtual 88, 3) := by decide +kernel
theorem dX0_sayOne_57 : decode cX0_sayOne 57 = .ok (.ifCond .eq 37, 3) := by decide +kernel
theorem dX0_sayOne_60 : decode cX0_sayOne 60 = .ok (.aload_n 0, 1) := by decide +kernel
theorem dX0_sayOne_61 : decode cX0_sayOne 61 = .ok (.getfield 64, 3) := by decide +kernel
theorem dX0_sayOne_64 : decode cX0_sayOne 64 = .ok (.aload_n 0, 1) := by decide +kernel
theorem dX0_sayOne_65 : decode cX0_sayOne 65 = .ok (.getfield 25, 3) := by decide +kernel
theorem dX0_sayOne_68 : decode cX0_sayOne 68 = .ok (.getfield 85, 3) := by decide +kernel
theorem dX0_sayOne_71 : decode cX0_sayOne 71 = .ok (.aload_n 0, 1) := by decide +kernel
theorem dX0_sayOne_72 : decode cX0_sayOne 72 = .ok (.getfield 61, 3) := by decide +kernel
theorem dX0_sayOne_75 : decode cX0_sayOne 75 = .ok (.iaload, 1) := by decide +kernel
theorem dX0_sayOne_76 : decode cX0_sayOne 76 = .ok (.if_icmp .lt 18, 3) := by decide +kernel
theorem dX0_sayOne_79 : decode cX0_sayOne 79 = .ok (.aload_n 0, 1) := by decide +kernel
theorem dX0_sayOne_80 : decode cX0_sayOne 80 = .ok (.iload_n 1, 1) := by decide +kernel
theorem dX0_sayOne_81 : decode cX0_sayOne 81 = .ok (.putfield 58, 3) := by decide +kernel
theorem dX0_sayOne_84 : decode cX0_sayOne 84 = .ok (.aload_n 0, 1) := by decide +kernel
theorem dX0_sayOne_85 : decode cX0_sayOne 85 = .ok (.iconst (-1), 1) := by decide +kernel
theorem dX0_sayOne_86 : decode cX0_sayOne 86 = .ok (.putfield 61, 3) := by decide +kernel
theorem dX0_sayOne_89 : decode cX0_sayOne 89 = .ok (.aload_n 0, 1) := by decide +kernel
theorem dX0_sayOne_90 : decode cX0_sayOne 90 = .ok (.iconst 0, 1) := by decide +kernel
theorem dX0_sayOne_91 : decode cX0_sayOne 91 = .ok (.putfield 64, 3) := by decide +kernel
theorem dX0_sayOne_94 : decode cX0_sayOne 94 = .ok (.return_, 1) := by decide +kernel
theorem dX0_passYear_0 : decode cX0_passYear 0 = .ok (.aload_n 0, 1) := by decide +kernel
theorem dX0_passYear_1 : decode cX0_passYear 1 = .ok (.getfield 25, 3) := by decide +kernel
theorem dX0_passYear_4 : decode cX0_passYear 4 = .ok (.getfield 41, 3) := by decide +kernel
theorem dX0_passYear_7 : decode cX0_passYear 7 = .ok (.ifCond .gt 5, 3) := by decide +kernel
theorem dX0_passYear_10 : decode cX0_passYear 10 = .ok (.iconst (-1), 1) := by decide +kernel
theorem dX0_passYear_11 : decode cX0_passYear 11 = .ok (.ireturn, 1) := by decide +kernel
theorem dX0_passYear_12 : decode cX0_passYear 12 = .ok (.aload_n 0, 1) := by decide +kernel
theorem dX0_passYear_13 : decode cX0_passYear 13 = .ok (.aload_n 0, 1) := by decide +kernel
theorem dX0_passYear_14 : decode cX0_passYear 14 = .ok (.getfield 51, 3) := by decide +kernel
theorem dX0_passYear_17 : decode cX0_passYear 17 = .ok (.sipush 137, 3) := by decide +kernel
theorem dX0_passYear_20 : decode cX0_passYear 20 = .ok (.imul, 1) := by decide +kernel
theorem dX0_passYear_21 : decode cX0_passYear 21 = .ok (.bipush 71, 2) := by decide +kernel
theorem dX0_passYear_23 : decode cX0_passYear 23 = .ok (.iadd, 1) := by decide +kernel
theorem dX0_passYear_24 : decode cX0_passYear 24 = .ok (.sipush 1000, 3) := by decide +kernel
theorem dX0_passYear_27 : decode cX0_passYear 27 = .ok (.irem, 1) := by decide +kernel
theorem dX0_passYear_28 : decode cX0_passYear 28 = .ok (.putfield 51, 3) := by decide +kernel
theorem dX0_passYear_31 : decode cX0_passYear 31 = .ok (.aload_n 0, 1) := by decide +kernel
theorem dX0_passYear_32 : decode cX0_passYear 32 = .ok (.getfield 51, 3) := by decide +kernel
theorem dX0_passYear_35 : decode cX0_passYear 35 = .ok (.aload_n 0, 1) := by decide +kernel
theorem dX0_passYear_36 : decode cX0_passYear 36 = .ok (.getfield 25, 3) := by decide +kernel
theorem dX0_passYear_39 : decode cX0_passYear 39 = .ok (.getfield 41, 3) := by decide +kernel
theorem dX0_passYear_42 : decode cX0_passYear 42 = .ok (.irem, 1) := by decide +kernel
theorem dX0_passYear_43 : decode cX0_passYear 43 = .ok (.istore_n 1, 1) := by decide +kernel
theorem dX0_passYear_44 : decode cX0_passYear 44 = .ok (.aload_n 0, 1) := by decide +kernel
theorem dX0_passYear_45 : decode cX0_passYear 45 = .ok (.getfield 51, 3) := by decide +kernel
theorem dX0_passYear_48 : decode cX0_passYear 48 = .ok (.bipush 10, 2) := by decide +kernel
theorem dX0_passYear_50 : decode cX0_passYear 50 = .ok (.idiv, 1) := by decide +kernel
theorem dX0_passYear_51 : decode cX0_passYear 51 = .ok (.iconst 2, 1) := by decide +kernel
theorem dX0_passYear_52 : decode cX0_passYear 52 = .ok (.irem, 1) := by decide +kernel
theorem dX0_passYear_53 : decode cX0_passYear 53 = .ok (.ifCond .ne 9, 3) := by decide +kernel
theorem dX0_passYear_56 : decode cX0_passYear 56 = .ok (.iconst 2, 1) := by decide +kernel
theorem dX0_passYear_57 : decode cX0_passYear 57 = .ok (.iload_n 1, 1) := by decide +kernel
theorem dX0_passYear_58 : decode cX0_passYear 58 = .ok (.imul, 1) := by decide +kernel
theorem dX0_passYear_59 : decode cX0_passYear 59 = .ok (.goto 8, 3) := by decide +kernel
theorem dX0_passYear_62 : decode cX0_passYear 62 = .ok (.iconst 2, 1) := by decide +kernel
theorem dX0_passYear_63 : decode cX0_passYear 63 = .ok (.iload_n 1, 1) := by decide +kernel
theorem dX0_passYear_64 : decode cX0_passYear 64 = .ok (.imul, 1) := by decide +kernel
theorem dX0_passYear_65 : decode cX0_passYear 65 = .ok (.iconst 1, 1) := by decide +kernel
theorem dX0_passYear_66 : decode cX0_passYear 66 = .ok (.iadd, 1) := by decide +kernel
theorem dX0_passYear_67 : decode cX0_passYear 67 = .ok (.istore_n 2, 1) := by decide +kernel
theorem dX0_passYear_68 : decode cX0_passYear 68 = .ok (.iload_n 2, 1) := by decide +kernel
theorem dX0_passYear_69 : decode cX0_passYear 69 = .ok (.ifCond .lt 31, 3) := by decide +kernel
theorem dX0_passYear_72 : decode cX0_passYear 72 = .ok (.iload_n 2, 1) := by decide +kernel
theorem dX0_passYear_73 : decode cX0_passYear 73 = .ok (.aload_n 0, 1) := by decide +kernel
theorem dX0_passYear_74 : decode cX0_passYear 74 = .ok (.getfield 9, 3) := by decide +kernel
theorem dX0_passYear_77 : decode cX0_passYear 77 = .ok (.arraylength, 1) := by decide +kernel
theorem dX0_passYear_78 : decode cX0_passYear 78 = .ok (.if_icmp .ge 22, 3) := by decide +kernel
theorem dX0_passYear_81 : decode cX0_passYear 81 = .ok (.aload_n 0, 1) := by decide +kernel
theorem dX0_passYear_82 : decode cX0_passYear 82 = .ok (.getfield 9, 3) := by decide +kernel
theorem dX0_passYear_85 : decode cX0_passYear 85 = .ok (.iload_n 2, 1) := by decide +kernel
theorem dX0_passYear_86 : decode cX0_passYear 86 = .ok (.aload_n 0, 1) := by decide +kernel
theorem dX0_passYear_87 : decode cX0_passYear 87 = .ok (.getfield 9, 3) := by decide +kernel
theorem dX0_passYear_90 : decode cX0_passYear 90 = .ok (.iload_n 2, 1) := by decide +kernel
theorem dX0_passYear_91 : decode cX0_passYear 91 = .ok (.iaload, 1) := by decide +kernel
theorem dX0_passYear_92 : decode cX0_passYear 92 = .ok (.iconst 1, 1) := by decide +kernel
theorem dX0_passYear_93 : decode cX0_passYear 93 = .ok (.iadd, 1) := by decide +kernel
theorem dX0_passYear_94 : decode cX0_passYear 94 = .ok (.bipush 9, 2) := by decide +kernel
theorem dX0_passYear_96 : decode cX0_passYear 96 = .ok (.invokestatic 99, 3) := by decide +kernel
theorem dX0_passYear_99 : decode cX0_passYear 99 = .ok (.iastore, 1) := by decide +kernel
theorem dX0_passYear_100 : decode cX0_passYear 100 = .ok (.aload_n 0, 1) := by decide +kernel
theorem dX0_passYear_101 : decode cX0_passYear 101 = .ok (.invokevirtual 74, 3) := by decide +kernel
theorem dX0_passYear_104 : decode cX0_passYear 104 = .ok (.iload_n 1, 1) := by decide +kernel
theorem dX0_passYear_105 : decode cX0_passYear 105 = .ok (.ireturn, 1) := by decide +kernel
theorem dX0_tellWalk_0 : decode cX0_tellWalk 0 = .ok (.aload_n 0, 1) := by decide +kernel
theorem dX0_tellWalk_1 : decode cX0_tellWalk 1 = .ok (.getfield 54, 3) := by decide +kernel
theorem dX0_tellWalk_4 : decode cX0_tellWalk 4 = .ok (.ifCond .ne 5, 3) := by decide +kernel
theorem dX0_tellWalk_7 : decode cX0_tellWalk 7 = .ok (.iconst (-1), 1) := by decide +kernel
theorem dX0_tellWalk_8 : decode cX0_tellWalk 8 = .ok (.ireturn, 1) := by decide +kernel
theorem dX0_tellWalk_9 : decode cX0_tellWalk 9 = .ok (.iload_n 1, 1) := by decide +kernel
theorem dX0_tellWalk_10 : decode cX0_tellWalk 10 = .ok (.tableswitch 97 0 6 #[42, 47, 52, 57, 65, 73, 81], 42) := by decide +kernel
theorem dX0_tellWalk_52 : decode cX0_tellWalk 52 = .ok (.aload_n 0, 1) := by decide +kernel
theorem dX0_tellWalk_53 : decode cX0_tellWalk 53 = .ok (.getfield 58, 3) := by decide +kernel
theorem dX0_tellWalk_56 : decode cX0_tellWalk 56 = .ok (.ireturn, 1) := by decide +kernel
theorem dX0_tellWalk_57 : decode cX0_tellWalk 57 = .ok (.aload_n 0, 1) := by decide +kernel
theorem dX0_tellWalk_58 : decode cX0_tellWalk 58 = .ok (.getfield 61, 3) := by decide +kernel
theorem dX0_tellWalk_61 : decode cX0_tellWalk 61 = .ok (.ireturn, 1) := by decide +kernel
theorem dX0_tellWalk_62 : decode cX0_tellWalk 62 = .ok (.aload_n 0, 1) := by decide +kernel
theorem dX0_tellWalk_63 : decode cX0_tellWalk 63 = .ok (.getfield 64, 3) := by decide +kernel
theorem dX0_tellWalk_66 : decode cX0_tellWalk 66 = .ok (.ireturn, 1) := by decide +kernel
theorem dX0_tellWalk_67 : decode cX0_tellWalk 67 = .ok (.aload_n 0, 1) := by decide +kernel
theorem dX0_tellWalk_68 : decode cX0_tellWalk 68 = .ok (.getfield 34, 3) := by decide +kernel
theorem dX0_tellWalk_71 : decode cX0_tellWalk 71 = .ok (.getfield 104, 3) := by decide +kernel
theorem dX0_tellWalk_74 : decode cX0_tellWalk 74 = .ok (.ireturn, 1) := by decide +kernel
theorem dX0_tellWalk_75 : decode cX0_tellWalk 75 = .ok (.aload_n 0, 1) := by decide +kernel
theorem dX0_tellWalk_76 : decode cX0_tellWalk 76 = .ok (.getfield 34, 3) := by decide +kernel
theorem dX0_tellWalk_79 : decode cX0_tellWalk 79 = .ok (.getfield 107, 3) := by decide +kernel
theorem dX0_tellWalk_82 : decode cX0_tellWalk 82 = .ok (.ireturn, 1) := by decide +kernel
theorem dX0_tellWalk_83 : decode cX0_tellWalk 83 = .ok (.aload_n 0, 1) := by decide +kernel
theorem dX0_tellWalk_84 : decode cX0_tellWalk 84 = .ok (.getfield 34, 3) := by decide +kernel
theorem dX0_tellWalk_87 : decode cX0_tellWalk 87 = .ok (.getfield 110, 3) := by decide +kernel
theorem dX0_tellWalk_90 : decode cX0_tellWalk 90 = .ok (.ireturn, 1) := by decide +kernel
theorem dX0_tellWalk_91 : decode cX0_tellWalk 91 = .ok (.aload_n 0, 1) := by decide +kernel
theorem dX0_tellWalk_92 : decode cX0_tellWalk 92 = .ok (.getfield 34, 3) := by decide +kernel
theorem dX0_tellWalk_95 : decode cX0_tellWalk 95 = .ok (.invokevirtual 77, 3) := by decide +kernel
theorem dX0_tellWalk_98 : decode cX0_tellWalk 98 = .ok (.ifCond .eq 7, 3) := by decide +kernel
theorem dX0_tellWalk_101 : decode cX0_tellWalk 101 = .ok (.iconst 1, 1) := by decide +kernel
theorem dX0_tellWalk_102 : decode cX0_tellWalk 102 = .ok (.goto 4, 3) := by decide +kernel
theorem dX0_tellWalk_105 : decode cX0_tellWalk 105 = .ok (.iconst 0, 1) := by decide +kernel
theorem dX0_tellWalk_106 : decode cX0_tellWalk 106 = .ok (.ireturn, 1) := by decide +kernel
theorem dX0_tellWalk_107 : decode cX0_tellWalk 107 = .ok (.iconst (-1), 1) := by decide +kernel
theorem dX0_tellWalk_108 : decode cX0_tellWalk 108 = .ok (.ireturn, 1) := by decide +kernel
theorem dX0_takeBack_0 : decode cX0_takeBack 0 = .ok (.aload_n 0, 1) := by decide +kernel
theorem dX0_takeBack_1 : decode cX0_takeBack 1 = .ok (.getfield 113, 3) := by decide +kernel
theorem dX0_takeBack_4 : decode cX0_takeBack 4 = .ok (.ifCond .gt 5, 3) := by decide +kernel
theorem dX0_takeBack_7 : decode cX0_takeBack 7 = .ok (.iconst 0, 1) := by decide +kernel
theorem dX0_takeBack_8 : decode cX0_takeBack 8 = .ok (.ireturn, 1) := by decide +kernel
theorem dX0_takeBack_9 : decode cX0_takeBack 9 = .ok (.aload_n 0, 1) := by decide +kernel
theorem dX0_takeBack_10 : decode cX0_takeBack 10 = .ok (.dup, 1) := by decide +kernel
theorem dX0_takeBack_11 : decode cX0_takeBack 11 = .ok (.getfield 113, 3) := by decide +kernel
theorem dX0_takeBack_14 : decode cX0_takeBack 14 = .ok (.iconst 1, 1) := by decide +kernel
theorem dX0_takeBack_15 : decode cX0_takeBack 15 = .ok (.isub, 1) := by decide +kernel
theorem dX0_takeBack_16 : decode cX0_takeBack 16 = .ok (.putfield 113, 3) := by decide +kernel
theorem dX0_takeBack_19 : decode cX0_takeBack 19 = .ok (.aload_n 0, 1) := by decide +kernel
theorem dX0_takeBack_20 : decode cX0_takeBack 20 = .ok (.dup, 1) := by decide +kernel
theorem dX0_takeBack_21 : decode cX0_takeBack 21 = .ok (.getfield 116, 3) := by decide +kernel
theorem dX0_takeBack_24 : decode cX0_takeBack 24 = .ok (.iconst 1, 1) := by decide +kernel
theorem dX0_takeBack_25 : decode cX0_takeBack 25 = .ok (.iadd, 1) := by decide +kernel
theorem dX0_takeBack_26 : decode cX0_takeBack 26 = .ok (.putfield 116, 3) := by decide +kernel
theorem dX0_takeBack_29 : decode cX0_takeBack 29 = .ok (.aload_n 0, 1) := by decide +kernel
theorem dX0_takeBack_30 : decode cX0_takeBack 30 = .ok (.aload_n 0, 1) := by decide +kernel
theorem dX0_takeBack_31 : decode cX0_takeBack 31 = .ok (.getfield 15, 3) := by decide +kernel
theorem dX0_takeBack_34 : decode cX0_takeBack 34 = .ok (.aload_n 0, 1) := by decide +kernel
theorem dX0_takeBack_35 : decode cX0_takeBack 35 = .ok (.invokevirtual 119, 3) := by decide +kernel
theorem dX0_takeBack_38 : decode cX0_takeBack 38 = .ok (.invokevirtual 123, 3) := by decide +kernel
theorem dX0_takeBack_41 : decode cX0_takeBack 41 = .ok (.iconst 1, 1) := by decide +kernel
theorem dX0_takeBack_42 : decode cX0_takeBack 42 = .ok (.ireturn, 1) := by decide +kernel
theorem dX0_doAgain_0 : decode cX0_doAgain 0 = .ok (.aload_n 0, 1) := by decide +kernel
theorem dX0_doAgain_1 : decode cX0_doAgain 1 = .ok (.getfield 116, 3) := by decide +kernel
theorem dX0_doAgain_4 : decode cX0_doAgain 4 = .ok (.ifCond .gt 5, 3) := by decide +kernel
theorem dX0_doAgain_7 : decode cX0_doAgain 7 = .ok (.iconst 0, 1) := by decide +kernel
theorem dX0_doAgain_8 : decode cX0_doAgain 8 = .ok (.ireturn, 1) := by decide +kernel
theorem dX0_doAgain_9 : decode cX0_doAgain 9 = .ok (.aload_n 0, 1) := by decide +kernel
theorem dX0_doAgain_10 : decode cX0_doAgain 10 = .ok (.dup, 1) := by decide +kernel
theorem dX0_doAgain_11 : decode cX0_doAgain 11 = .ok (.getfield 113, 3) := by decide +kernel
theorem dX0_doAgain_14 : decode cX0_doAgain 14 = .ok (.iconst 1, 1) := by decide +kernel
theorem dX0_doAgain_15 : decode cX0_doAgain 15 = .ok (.iadd, 1) := by decide +kernel
theorem dX0_doAgain_16 : decode cX0_doAgain 16 = .ok (.putfield 113, 3) := by decide +kernel
theorem dX0_doAgain_19 : decode cX0_doAgain 19 = .ok (.aload_n 0, 1) := by decide +kernel
theorem dX0_doAgain_20 : decode cX0_doAgain 20 = .ok (.dup, 1) := by decide +kernel
theorem dX0_doAgain_21 : decode cX0_doAgain 21 = .ok (.getfield 116, 3) := by decide +kernel
theorem dX0_doAgain_24 : decode cX0_doAgain 24 = .ok (.iconst 1, 1) := by decide +kernel
theorem dX0_doAgain_25 : decode cX0_doAgain 25 = .ok (.isub, 1) := by decide +kernel
theorem dX0_doAgain_26 : decode cX0_doAgain 26 = .ok (.putfield 116, 3) := by decide +kernel
theorem dX0_doAgain_29 : decode cX0_doAgain 29 = .ok (.aload_n 0, 1) := by decide +kernel
theorem dX0_doAgain_30 : decode cX0_doAgain 30 = .ok (.aload_n 0, 1) := by decide +kernel
theorem dX0_doAgain_31 : decode cX0_doAgain 31 = .ok (.getfield 15, 3) := by decide +kernel
theorem dX0_doAgain_34 : decode cX0_doAgain 34 = .ok (.aload_n 0, 1) := by decide +kernel
theorem dX0_doAgain_35 : decode cX0_doAgain 35 = .ok (.invokevirtual 119, 3) := by decide +kernel
theorem dX0_doAgain_38 : decode cX0_doAgain 38 = .ok (.invokevirtual 123, 3) := by decide +kernel
theorem dX0_doAgain_41 : decode cX0_doAgain 41 = .ok (.iconst 1, 1) := by decide +kernel
theorem dX0_doAgain_42 : decode cX0_doAgain 42 = .ok (.ireturn, 1) := by decide +kernel
theorem dX0_keep_0 : decode cX0_keep 0 = .ok (.iload_n 1, 1) := by decide +kernel
theorem dX0_keep_1 : decode cX0_keep 1 = .ok (.ifCond .lt 8, 3) := by decide +kernel
theorem dX0_keep_4 : decode cX0_keep 4 = .ok (.iload_n 1, 1) := by decide +kernel
theorem dX0_keep_5 : decode cX0_keep 5 = .ok (.iconst 3, 1) := by decide +kernel
theorem dX0_keep_6 : decode cX0_keep 6 = .ok (.if_icmp .lt 5, 3) := by decide +kernel
theorem dX0_keep_9 : decode cX0_keep 9 = .ok (.iconst (-1), 1) := by decide +kernel
theorem dX0_keep_10 : decode cX0_keep 10 = .ok (.ireturn, 1) := by decide +kernel
theorem dX0_keep_11 : decode cX0_keep 11 = .ok (.aload_n 0, 1) := by decide +kernel
theorem dX0_keep_12 : decode cX0_keep 12 = .ok (.getfield 21, 3) := by decide +kernel
theorem dX0_keep_15 : decode cX0_keep 15 = .ok (.iload_n 1, 1) := by decide +kernel
theorem dX0_keep_16 : decode cX0_keep 16 = .ok (.iconst 1, 1) := by decide +kernel
theorem dX0_keep_17 : decode cX0_keep 17 = .ok (.bastore, 1) := by decide +kernel
theorem dX0_keep_18 : decode cX0_keep 18 = .ok (.aload_n 0, 1) := by decide +kernel
theorem dX0_keep_19 : decode cX0_keep 19 = .ok (.aload_n 0, 1) := by decide +kernel
theorem dX0_keep_20 : decode cX0_keep 20 = .ok (.getfield 18, 3) := by decide +kernel
theorem dX0_keep_23 : decode cX0_keep 23 = .ok (.iload_n 1, 1) := by decide +kernel
theorem dX0_keep_24 : decode cX0_keep 24 = .ok (.bipush 41, 2) := by decide +kernel
theorem dX0_keep_26 : decode cX0_keep 26 = .ok (.imul, 1) := by decide +kernel
theorem dX0_keep_27 : decode cX0_keep 27 = .ok (.invokevirtual 127, 3) := by decide +kernel
theorem dX0_keep_30 : decode cX0_keep 30 = .ok (.aload_n 0, 1) := by decide +kernel
theorem dX0_keep_31 : decode cX0_keep 31 = .ok (.invokevirtual 130, 3) := by decide +kernel
theorem dX0_keep_34 : decode cX0_keep 34 = .ok (.ireturn, 1) := by decide +kernel
theorem dX0_goBack_0 : decode cX0_goBack 0 = .ok (.iload_n 1, 1) := by decide +kernel
theorem dX0_goBack_1 : decode cX0_goBack 1 = .ok (.ifCond .lt 17, 3) := by decide +kernel
theorem dX0_goBack_4 : decode cX0_goBack 4 = .ok (.iload_n 1, 1) := by decide +kernel
theorem dX0_goBack_5 : decode cX0_goBack 5 = .ok (.iconst 3, 1) := by decide +kernel
theorem dX0_goBack_6 : decode cX0_goBack 6 = .ok (.if_icmp .ge 12, 3) := by decide +kernel
theorem dX0_goBack_9 : decode cX0_goBack 9 = .ok (.aload_n 0, 1) := by decide +kernel
theorem dX0_goBack_10 : decode cX0_goBack 10 = .ok (.getfield 21, 3) := by decide +kernel
theorem dX0_goBack_13 : decode cX0_goBack 13 = .ok (.iload_n 1, 1) := by decide +kernel
theorem dX0_goBack_14 : decode cX0_goBack 14 = .ok (.baload, 1) := by decide +kernel
theorem dX0_goBack_15 : decode cX0_goBack 15 = .ok (.ifCond .ne 5, 3) := by decide +kernel
theorem dX0_goBack_18 : decode cX0_goBack 18 = .ok (.iconst (-1), 1) := by decide +kernel
theorem dX0_goBack_19 : decode cX0_goBack 19 = .ok (.ireturn, 1) := by decide +kernel
theorem dX0_goBack_20 : decode cX0_goBack 20 = .ok (.aload_n 0, 1) := by decide +kernel
theorem dX0_goBack_21 : decode cX0_goBack 21 = .ok (.aload_n 0, 1) := by decide +kernel
theorem dX0_goBack_22 : decode cX0_goBack 22 = .ok (.getfield 18, 3) := by decide +kernel
theorem dX0_goBack_25 : decode cX0_goBack 25 = .ok (.iload_n 1, 1) := by decide +kernel
theorem dX0_goBack_26 : decode cX0_goBack 26 = .ok (.bipush 41, 2) := by decide +kernel
theorem dX0_goBack_28 : decode cX0_goBack 28 = .ok (.imul, 1) := by decide +kernel
theorem dX0_goBack_29 : decode cX0_goBack 29 = .ok (.invokevirtual 123, 3) := by decide +kernel
theorem dX0_goBack_32 : decode cX0_goBack 32 = .ok (.aload_n 0, 1) := by decide +kernel
theorem dX0_goBack_33 : decode cX0_goBack 33 = .ok (.invokevirtual 67, 3) := by decide +kernel
theorem dX0_goBack_36 : decode cX0_goBack 36 = .ok (.aload_n 0, 1) := by decide +kernel
theorem dX0_goBack_37 : decode cX0_goBack 37 = .ok (.invokevirtual 130, 3) := by decide +kernel
theorem dX0_goBack_40 : decode cX0_goBack 40 = .ok (.ireturn, 1) := by decide +kernel
theorem dX0_wordsInAll_0 : decode cX0_wordsInAll 0 = .ok (.aload_n 0, 1) := by decide +kernel
theorem dX0_wordsInAll_1 : decode cX0_wordsInAll 1 = .ok (.getfield 54, 3) := by decide +kernel
theorem dX0_wordsInAll_4 : decode cX0_wordsInAll 4 = .ok (.ifCond .eq 13, 3) := by decide +kernel
theorem dX0_wordsInAll_7 : decode cX0_wordsInAll 7 = .ok (.aload_n 0, 1) := by decide +kernel
theorem dX0_wordsInAll_8 : decode cX0_wordsInAll 8 = .ok (.getfield 34, 3) := by decide +kernel
theorem dX0_wordsInAll_11 : decode cX0_wordsInAll 11 = .ok (.getfield 104, 3) := by decide +kernel
theorem dX0_wordsInAll_14 : decode cX0_wordsInAll 14 = .ok (.goto 4, 3) := by decide +kernel
theorem dX0_wordsInAll_17 : decode cX0_wordsInAll 17 = .ok (.iconst 0, 1) := by decide +kernel
theorem dX0_wordsInAll_18 : decode cX0_wordsInAll 18 = .ok (.ireturn, 1) := by decide +kernel
theorem dX0_forgetActs_0 : decode cX0_forgetActs 0 = .ok (.aload_n 0, 1) := by decide +kernel
theorem dX0_forgetActs_1 : decode cX0_forgetActs 1 = .ok (.iconst 0, 1) := by decide +kernel
theorem dX0_forgetActs_2 : decode cX0_forgetActs 2 = .ok (.putfield 113, 3) := by decide +kernel
theorem dX0_forgetActs_5 : decode cX0_forgetActs 5 = .ok (.aload_n 0, 1) := by decide +kernel
theorem dX0_forgetActs_6 : decode cX0_forgetActs 6 = .ok (.iconst 0, 1) := by decide +kernel
theorem dX0_forgetActs_7 : decode cX0_forgetActs 7 = .ok (.putfield 116, 3) := by decide +kernel
theorem dX0_forgetActs_10 : decode cX0_forgetActs 10 = .ok (.aload_n 0, 1) := by decide +kernel
theorem dX0_forgetActs_11 : decode cX0_forgetActs 11 = .ok (.aload_n 0, 1) := by decide +kernel
theorem dX0_forgetActs_12 : decode cX0_forgetActs 12 = .ok (.getfield 15, 3) := by decide +kernel
theorem dX0_forgetActs_15 : decode cX0_forgetActs 15 = .ok (.aload_n 0, 1) := by decide +kernel
theorem dX0_forgetActs_16 : decode cX0_forgetActs 16 = .ok (.invokevirtual 119, 3) := by decide +kernel
theorem dX0_forgetActs_19 : decode cX0_forgetActs 19 = .ok (.invokevirtual 127, 3) := by decide +kernel
theorem dX0_forgetActs_22 : decode cX0_forgetActs 22 = .ok (.return_, 1) := by decide +kernel
theorem dX0_keepAct_0 : decode cX0_keepAct 0 = .ok (.aload_n 0, 1) := by decide +kernel
theorem dX0_keepAct_1 : decode cX0_keepAct 1 = .ok (.iconst 0, 1) := by decide +kernel
theorem dX0_keepAct_2 : decode cX0_keepAct 2 = .ok (.putfield 116, 3) := by decide +kernel
theorem dX0_keepAct_5 : decode cX0_keepAct 5 = .ok (.aload_n 0, 1) := by decide +kernel
theorem dX0_keepAct_6 : decode cX0_keepAct 6 = .ok (.getfield 113, 3) := by decide +kernel
theorem dX0_keepAct_9 : decode cX0_keepAct 9 = .ok (.bipush 40, 2) := by decide +kernel
theorem dX0_keepAct_11 : decode cX0_keepAct 11 = .ok (.if_icmp .ge 16, 3) := by decide +kernel
theorem dX0_keepAct_14 : decode cX0_keepAct 14 = .ok (.aload_n 0, 1) := by decide +kernel
theorem dX0_keepAct_15 : decode cX0_keepAct 15 = .ok (.dup, 1) := by decide +kernel
theorem dX0_keepAct_16 : decode cX0_keepAct 16 = .ok (.getfield 113, 3) := by decide +kernel
theorem dX0_keepAct_19 : decode cX0_keepAct 19 = .ok (.iconst 1, 1) := by decide +kernel
theorem dX0_keepAct_20 : decode cX0_keepAct 20 = .ok (.iadd, 1) := by decide +kernel
theorem dX0_keepAct_21 : decode cX0_keepAct 21 = .ok (.putfield 113, 3) := by decide +kernel
theorem dX0_keepAct_24 : decode cX0_keepAct 24 = .ok (.goto 16, 3) := by decide +kernel
theorem dX0_keepAct_27 : decode cX0_keepAct 27 = .ok (.aload_n 0, 1) := by decide +kernel
theorem dX0_keepAct_28 : decode cX0_keepAct 28 = .ok (.aload_n 0, 1) := by decide +kernel
theorem dX0_keepAct_29 : decode cX0_keepAct 29 = .ok (.getfield 133, 3) := by decide +kernel
theorem dX0_keepAct_32 : decode cX0_keepAct 32 = .ok (.iconst 1, 1) := by decide +kernel
theorem dX0_keepAct_33 : decode cX0_keepAct 33 = .ok (.iadd, 1) := by decide +kernel
theorem dX0_keepAct_34 : decode cX0_keepAct 34 = .ok (.bipush 41, 2) := by decide +kernel
theorem dX0_keepAct_36 : decode cX0_keepAct 36 = .ok (.irem, 1) := by decide +kernel
theorem dX0_keepAct_37 : decode cX0_keepAct 37 = .ok (.putfield 133, 3) := by decide +kernel
theorem dX0_keepAct_40 : decode cX0_keepAct 40 = .ok (.aload_n 0, 1) := by decide +kernel
theorem dX0_keepAct_41 : decode cX0_keepAct 41 = .ok (.aload_n 0, 1) := by decide +kernel
theorem dX0_keepAct_42 : decode cX0_keepAct 42 = .ok (.getfield 15, 3) := by decide +kernel
theorem dX0_keepAct_45 : decode cX0_keepAct 45 = .ok (.aload_n 0, 1) := by decide +kernel
theorem dX0_keepAct_46 : decode cX0_keepAct 46 = .ok (.invokevirtual 119, 3) := by decide +kernel
theorem dX0_keepAct_49 : decode cX0_keepAct 49 = .ok (.invokevirtual 127, 3) := by decide +kernel
theorem dX0_keepAct_52 : decode cX0_keepAct 52 = .ok (.return_, 1) := by decide +kernel
theorem dX0_slot_0 : decode cX0_slot 0 = .ok (.aload_n 0, 1) := by decide +kernel
theorem dX0_slot_1 : decode cX0_slot 1 = .ok (.getfield 133, 3) := by decide +kernel
theorem dX0_slot_4 : decode cX0_slot 4 = .ok (.aload_n 0, 1) := by decide +kernel
theorem dX0_slot_5 : decode cX0_slot 5 = .ok (.getfield 113, 3) := by decide +kernel
theorem dX0_slot_8 : decode cX0_slot 8 = .ok (.iadd, 1) := by decide +kernel
theorem dX0_slot_9 : decode cX0_slot 9 = .ok (.bipush 41, 2) := by decide +kernel
theorem dX0_slot_11 : decode cX0_slot 11 = .ok (.irem, 1) := by decide +kernel
theorem dX0_slot_12 : decode cX0_slot 12 = .ok (.bipush 41, 2) := by decide +kernel
theorem dX0_slot_14 : decode cX0_slot 14 = .ok (.imul, 1) := by decide +kernel
theorem dX0_slot_15 : decode cX0_slot 15 = .ok (.ireturn, 1) := by decide +kernel
theorem dX0_put_0 : decode cX0_put 0 = .ok (.iload_n 2, 1) := by decide +kernel
theorem dX0_put_1 : decode cX0_put 1 = .ok (.ifCond .lt 12, 3) := by decide +kernel
theorem dX0_put_4 : decode cX0_put 4 = .ok (.iload_n 2, 1) := by decide +kernel
theorem dX0_put_5 : decode cX0_put 5 = .ok (.aload_n 1, 1) := by decide +kernel
theorem dX0_put_6 : decode cX0_put 6 = .ok (.arraylength, 1) := by decide +kernel
theorem dX0_put_7 : decode cX0_put 7 = .ok (.bipush 41, 2) := by decide +kernel
theorem dX0_put_9 : decode cX0_put 9 = .ok (.isub, 1) := by decide +kernel
theorem dX0_put_10 : decode cX0_put 10 = .ok (.if_icmp .le 4, 3) := by decide +kernel
theorem dX0_put_13 : decode cX0_put 13 = .ok (.return_, 1) := by decide +kernel
theorem dX0_put_14 : decode cX0_put 14 = .ok (.iconst 0, 1) := by decide +kernel
theorem dX0_put_15 : decode cX0_put 15 = .ok (.istore_n 3, 1) := by decide +kernel
theorem dX0_put_16 : decode cX0_put 16 = .ok (.iload_n 3, 1) := by decide +kernel
theorem dX0_put_17 : decode cX0_put 17 = .ok (.aload_n 0, 1) := by decide +kernel
theorem dX0_put_18 : decode cX0_put 18 = .ok (.getfield 9, 3) := by decide +kernel
theorem dX0_put_21 : decode cX0_put 21 = .ok (.arraylength, 1) := by decide +kernel
theorem dX0_put_22 : decode cX0_put 22 = .ok (.if_icmp .ge 20, 3) := by decide +kernel
theorem dX0_put_25 : decode cX0_put 25 = .ok (.aload_n 1, 1) := by decide +kernel
theorem dX0_put_26 : decode cX0_put 26 = .ok (.iload_n 2, 1) := by decide +kernel
theorem dX0_put_27 : decode cX0_put 27 = .ok (.iload_n 3, 1) := by decide +kernel
theorem dX0_put_28 : decode cX0_put 28 = .ok (.iadd, 1) := by decide +kernel
theorem dX0_put_29 : decode cX0_put 29 = .ok (.aload_n 0, 1) := by decide +kernel
theorem dX0_put_30 : decode cX0_put 30 = .ok (.getfield 9, 3) := by decide +kernel
theorem dX0_put_33 : decode cX0_put 33 = .ok (.iload_n 3, 1) := by decide +kernel
theorem dX0_put_34 : decode cX0_put 34 = .ok (.iaload, 1) := by decide +kernel
theorem dX0_put_35 : decode cX0_put 35 = .ok (.iastore, 1) := by decide +kernel
theorem dX0_put_36 : decode cX0_put 36 = .ok (.iinc 3 1, 3) := by decide +kernel
theorem dX0_put_39 : decode cX0_put 39 = .ok (.goto (-23), 3) := by decide +kernel
theorem dX0_put_42 : decode cX0_put 42 = .ok (.iload_n 2, 1) := by decide +kernel
theorem dX0_put_43 : decode cX0_put 43 = .ok (.aload_n 0, 1) := by decide +kernel
theorem dX0_put_44 : decode cX0_put 44 = .ok (.getfield 9, 3) := by decide +kernel
theorem dX0_put_47 : decode cX0_put 47 = .ok (.arraylength, 1) := by decide +kernel
theorem dX0_put_48 : decode cX0_put 48 = .ok (.iadd, 1) := by decide +kernel
theorem dX0_put_49 : decode cX0_put 49 = .ok (.istore_n 3, 1) := by decide +kernel
theorem dX0_put_50 : decode cX0_put 50 = .ok (.aload_n 1, 1) := by decide +kernel
theorem dX0_put_51 : decode cX0_put 51 = .ok (.iload_n 3, 1) := by decide +kernel
theorem dX0_put_52 : decode cX0_put 52 = .ok (.aload_n 0, 1) := by decide +kernel
theorem dX0_put_53 : decode cX0_put 53 = .ok (.getfield 51, 3) := by decide +kernel
theorem dX0_put_56 : decode cX0_put 56 = .ok (.iastore, 1) := by decide +kernel
theorem dX0_put_57 : decode cX0_put 57 = .ok (.aload_n 1, 1) := by decide +kernel
theorem dX0_put_58 : decode cX0_put 58 = .ok (.iload_n 3, 1) := by decide +kernel
theorem dX0_put_59 : decode cX0_put 59 = .ok (.iconst 1, 1) := by decide +kernel
theorem dX0_put_60 : decode cX0_put 60 = .ok (.iadd, 1) := by decide +kernel
theorem dX0_put_61 : decode cX0_put 61 = .ok (.aload_n 0, 1) := by decide +kernel
theorem dX0_put_62 : decode cX0_put 62 = .ok (.getfield 54, 3) := by decide +kernel
theorem dX0_put_65 : decode cX0_put 65 = .ok (.ifCond .eq 7, 3) := by decide +kernel
theorem dX0_put_68 : decode cX0_put 68 = .ok (.iconst 1, 1) := by decide +kernel
theorem dX0_put_69 : decode cX0_put 69 = .ok (.goto 4, 3) := by decide +kernel
theorem dX0_put_72 : decode cX0_put 72 = .ok (.iconst 0, 1) := by decide +kernel
theorem dX0_put_73 : decode cX0_put 73 = .ok (.iastore, 1) := by decide +kernel
theorem dX0_put_74 : decode cX0_put 74 = .ok (.aload_n 1, 1) := by decide +kernel
theorem dX0_put_75 : decode cX0_put 75 = .ok (.iload_n 3, 1) := by decide +kernel
theorem dX0_put_76 : decode cX0_put 76 = .ok (.iconst 2, 1) := by decide +kernel
theorem dX0_put_77 : decode cX0_put 77 = .ok (.iadd, 1) := by decide +kernel
theorem dX0_put_78 : decode cX0_put 78 = .ok (.aload_n 0, 1) := by decide +kernel
theorem dX0_put_79 : decode cX0_put 79 = .ok (.getfield 58, 3) := by decide +kernel
theorem dX0_put_82 : decode cX0_put 82 = .ok (.iastore, 1) := by decide +kernel
theorem dX0_put_83 : decode cX0_put 83 = .ok (.aload_n 1, 1) := by decide +kernel
theorem dX0_put_84 : decode cX0_put 84 = .ok (.iload_n 3, 1) := by decide +kernel
theorem dX0_put_85 : decode cX0_put 85 = .ok (.iconst 3, 1) := by decide +kernel
theorem dX0_put_86 : decode cX0_put 86 = .ok (.iadd, 1) := by decide +kernel
theorem dX0_put_87 : decode cX0_put 87 = .ok (.aload_n 0, 1) := by decide +kernel
theorem dX0_put_88 : decode cX0_put 88 = .ok (.getfield 61, 3) := by decide +kernel
theorem dX0_put_91 : decode cX0_put 91 = .ok (.iastore, 1) := by decide +kernel
theorem dX0_put_92 : decode cX0_put 92 = .ok (.aload_n 1, 1) := by decide +kernel
theorem dX0_put_93 : decode cX0_put 93 = .ok (.iload_n 3, 1) := by decide +kernel
theorem dX0_put_94 : decode cX0_put 94 = .ok (.iconst 4, 1) := by decide +kernel
theorem dX0_put_95 : decode cX0_put 95 = .ok (.iadd, 1) := by decide +kernel
theorem dX0_put_96 : decode cX0_put 96 = .ok (.aload_n 0, 1) := by decide +kernel
theorem dX0_put_97 : decode cX0_put 97 = .ok (.getfield 64, 3) := by decide +kernel
theorem dX0_put_100 : decode cX0_put 100 = .ok (.iastore, 1) := by decide +kernel
theorem dX0_put_101 : decode cX0_put 101 = .ok (.aload_n 0, 1) := by decide +kernel
theorem dX0_put_102 : decode cX0_put 102 = .ok (.getfield 34, 3) := by decide +kernel
theorem dX0_put_105 : decode cX0_put 105 = .ok (.aload_n 1, 1) := by decide +kernel
theorem dX0_put_106 : decode cX0_put 106 = .ok (.iload_n 3, 1) := by decide +kernel
theorem dX0_put_107 : decode cX0_put 107 = .ok (.iconst 5, 1) := by decide +kernel
theorem dX0_put_108 : decode cX0_put 108 = .ok (.iadd, 1) := by decide +kernel
theorem dX0_put_109 : decode cX0_put 109 = .ok (.invokevirtual 136, 3) := by decide +kernel
theorem dX0_put_112 : decode cX0_put 112 = .ok (.return_, 1) := by decide +kernel
theorem dX0_bring_0 : decode cX0_bring 0 = .ok (.iload_n 2, 1) := by decide +kernel
theorem dX0_bring_1 : decode cX0_bring 1 = .ok (.ifCond .lt 12, 3) := by decide +kernel
theorem dX0_bring_4 : decode cX0_bring 4 = .ok (.iload_n 2, 1) := by decide +kernel
theorem dX0_bring_5 : decode cX0_bring 5 = .ok (.aload_n 1, 1) := by decide +kernel
theorem dX0_bring_6 : decode cX0_bring 6 = .ok (.arraylength, 1) := by decide +kernel
theorem dX0_bring_7 : decode cX0_bring 7 = .ok (.bipush 41, 2) := by decide +kernel
theorem dX0_bring_9 : decode cX0_bring 9 = .ok (.isub, 1) := by decide +kernel
theorem dX0_bring_10 : decode cX0_bring 10 = .ok (.if_icmp .le 4, 3) := by decide +kernel
theorem dX0_bring_13 : decode cX0_bring 13 = .ok (.return_, 1) := by decide +kernel
theorem dX0_bring_14 : decode cX0_bring 14 = .ok (.iconst 0, 1) := by decide +kernel
theorem dX0_bring_15 : decode cX0_bring 15 = .ok (.istore_n 3, 1) := by decide +kernel
theorem dX0_bring_16 : decode cX0_bring 16 = .ok (.iload_n 3, 1) := by decide +kernel
theorem dX0_bring_17 : decode cX0_bring 17 = .ok (.aload_n 0, 1) := by decide +kernel
theorem dX0_bring_18 : decode cX0_bring 18 = .ok (.getfield 9, 3) := by decide +kernel
theorem dX0_bring_21 : decode cX0_bring 21 = .ok (.arraylength, 1) := by decide +kernel
theorem dX0_bring_22 : decode cX0_bring 22 = .ok (.if_icmp .ge 20, 3) := by decide +kernel
theorem dX0_bring_25 : decode cX0_bring 25 = .ok (.aload_n 0, 1) := by decide +kernel
theorem dX0_bring_26 : decode cX0_bring 26 = .ok (.getfield 9, 3) := by decide +kernel
theorem dX0_bring_29 : decode cX0_bring 29 = .ok (.iload_n 3, 1) := by decide +kernel
theorem dX0_bring_30 : decode cX0_bring 30 = .ok (.aload_n 1, 1) := by decide +kernel
theorem dX0_bring_31 : decode cX0_bring 31 = .ok (.iload_n 2, 1) := by decide +kernel
theorem dX0_bring_32 : decode cX0_bring 32 = .ok (.iload_n 3, 1) := by decide +kernel
theorem dX0_bring_33 : decode cX0_bring 33 = .ok (.iadd, 1) := by decide +kernel
theorem dX0_bring_34 : decode cX0_bring 34 = .ok (.iaload, 1) := by decide +kernel
theorem dX0_bring_35 : decode cX0_bring 35 = .ok (.iastore, 1) := by decide +kernel
theorem dX0_bring_36 : decode cX0_bring 36 = .ok (.iinc 3 1, 3) := by decide +kernel
theorem dX0_bring_39 : decode cX0_bring 39 = .ok (.goto (-23), 3) := by decide +kernel
theorem dX0_bring_42 : decode cX0_bring 42 = .ok (.iload_n 2, 1) := by decide +kernel
theorem dX0_bring_43 : decode cX0_bring 43 = .ok (.aload_n 0, 1) := by decide +kernel
theorem dX0_bring_44 : decode cX0_bring 44 = .ok (.getfield 9, 3) := by decide +kernel
theorem dX0_bring_47 : decode cX0_bring 47 = .ok (.arraylength, 1) := by decide +kernel
theorem dX0_bring_48 : decode cX0_bring 48 = .ok (.iadd, 1) := by decide +kernel
theorem dX0_bring_49 : decode cX0_bring 49 = .ok (.istore_n 3, 1) := by decide +kernel
theorem dX0_bring_50 : decode cX0_bring 50 = .ok (.aload_n 0, 1) := by decide +kernel
theorem dX0_bring_51 : decode cX0_bring 51 = .ok (.aload_n 1, 1) := by decide +kernel
theorem dX0_bring_52 : decode cX0_bring 52 = .ok (.iload_n 3, 1) := by decide +kernel
theorem dX0_bring_53 : decode cX0_bring 53 = .ok (.iaload, 1) := by decide +kernel
theorem dX0_bring_54 : decode cX0_bring 54 = .ok (.putfield 51, 3) := by decide +kernel
theorem dX0_bring_57 : decode cX0_bring 57 = .ok (.aload_n 0, 1) := by decide +kernel
theorem dX0_bring_58 : decode cX0_bring 58 = .ok (.aload_n 1, 1) := by decide +kernel
theorem dX0_bring_59 : decode cX0_bring 59 = .ok (.iload_n 3, 1) := by decide +kernel
theorem dX0_bring_60 : decode cX0_bring 60 = .ok (.iconst 1, 1) := by decide +kernel
theorem dX0_bring_61 : decode cX0_bring 61 = .ok (.iadd, 1) := by decide +kernel
theorem dX0_bring_62 : decode cX0_bring 62 = .ok (.iaload, 1) := by decide +kernel
theorem dX0_bring_63 : decode cX0_bring 63 = .ok (.iconst 1, 1) := by decide +kernel
theorem dX0_bring_64 : decode cX0_bring 64 = .ok (.if_icmp .ne 7, 3) := by decide +kernel
theorem dX0_bring_67 : decode cX0_bring 67 = .ok (.iconst 1, 1) := by decide +kernel
theorem dX0_bring_68 : decode cX0_bring 68 = .ok (.goto 4, 3) := by decide +kernel
theorem dX0_bring_71 : decode cX0_bring 71 = .ok (.iconst 0, 1) := by decide +kernel
theorem dX0_bring_72 : decode cX0_bring 72 = .ok (.putfield 54, 3) := by decide +kernel
theorem dX0_bring_75 : decode cX0_bring 75 = .ok (.aload_n 0, 1) := by decide +kernel
theorem dX0_bring_76 : decode cX0_bring 76 = .ok (.aload_n 1, 1) := by decide +kernel
theorem dX0_bring_77 : decode cX0_bring 77 = .ok (.iload_n 3, 1) := by decide +kernel
theorem dX0_bring_78 : decode cX0_bring 78 = .ok (.iconst 2, 1) := by decide +kernel
theorem dX0_bring_79 : decode cX0_bring 79 = .ok (.iadd, 1) := by decide +kernel
theorem dX0_bring_80 : decode cX0_bring 80 = .ok (.iaload, 1) := by decide +kernel
theorem dX0_bring_81 : decode cX0_bring 81 = .ok (.putfield 58, 3) := by decide +kernel
theorem dX0_bring_84 : decode cX0_bring 84 = .ok (.aload_n 0, 1) := by decide +kernel
theorem dX0_bring_85 : decode cX0_bring 85 = .ok (.aload_n 1, 1) := by decide +kernel
theorem dX0_bring_86 : decode cX0_bring 86 = .ok (.iload_n 3, 1) := by decide +kernel
theorem dX0_bring_87 : decode cX0_bring 87 = .ok (.iconst 3, 1) := by decide +kernel
theorem dX0_bring_88 : decode cX0_bring 88 = .ok (.iadd, 1) := by decide +kernel
theorem dX0_bring_89 : decode cX0_bring 89 = .ok (.iaload, 1) := by decide +kernel
theorem dX0_bring_90 : decode cX0_bring 90 = .ok (.putfield 61, 3) := by decide +kernel
theorem dX0_bring_93 : decode cX0_bring 93 = .ok (.aload_n 0, 1) := by decide +kernel
theorem dX0_bring_94 : decode cX0_bring 94 = .ok (.aload_n 1, 1) := by decide +kernel
theorem dX0_bring_95 : decode cX0_bring 95 = .ok (.iload_n 3, 1) := by decide +kernel
theorem dX0_bring_96 : decode cX0_bring 96 = .ok (.iconst 4, 1) := by decide +kernel
theorem dX0_bring_97 : decode cX0_bring 97 = .ok (.iadd, 1) := by decide +kernel
theorem dX0_bring_98 : decode cX0_bring 98 = .ok (.iaload, 1) := by decide +kernel
theorem dX0_bring_99 : decode cX0_bring 99 = .ok (.putfield 64, 3) := by decide +kernel
theorem dX0_bring_102 : decode cX0_bring 102 = .ok (.aload_n 0, 1) := by decide +kernel
theorem dX0_bring_103 : decode cX0_bring 103 = .ok (.getfield 34, 3) := by decide +kernel
theorem dX0_bring_106 : decode cX0_bring 106 = .ok (.aload_n 1, 1) := by decide +kernel
theorem dX0_bring_107 : decode cX0_bring 107 = .ok (.iload_n 3, 1) := by decide +kernel
theorem dX0_bring_108 : decode cX0_bring 108 = .ok (.iconst 5, 1) := by decide +kernel
theorem dX0_bring_109 : decode cX0_bring 109 = .ok (.iadd, 1) := by decide +kernel
theorem dX0_bring_110 : decode cX0_bring 110 = .ok (.invokevirtual 137, 3) := by decide +kernel
theorem dX0_bring_113 : decode cX0_bring 113 = .ok (.return_, 1) := by decide +kernel
theorem dX1_init_0 : decode cX1_init 0 = .ok (.aload_n 0, 1) := by decide +kernel
theorem dX1_init_1 : decode cX1_init 1 = .ok (.invokespecial 3, 3) := by decide +kernel
theorem dX1_init_4 : decode cX1_init 4 = .ok (.aload_n 0, 1) := by decide +kernel
theorem dX1_init_5 : decode cX1_init 5 = .ok (.new 9, 3) := by decide +kernel
theorem dX1_init_8 : decode cX1_init 8 = .ok (.dup, 1) := by decide +kernel
theorem dX1_init_9 : decode cX1_init 9 = .ok (.invokespecial 11, 3) := by decide +kernel
theorem dX1_init_12 : decode cX1_init 12 = .ok (.putfield 12, 3) := by decide +kernel
theorem dX1_init_15 : decode cX1_init 15 = .ok (.aload_n 0, 1) := by decide +kernel
theorem dX1_init_16 : decode cX1_init 16 = .ok (.bipush 12, 2) := by decide +kernel
theorem dX1_init_18 : decode cX1_init 18 = .ok (.newarray .int, 2) := by decide +kernel
theorem dX1_init_20 : decode cX1_init 20 = .ok (.putfield 18, 3) := by decide +kernel
theorem dX1_init_23 : decode cX1_init 23 = .ok (.aload_n 0, 1) := by decide +kernel
theorem dX1_init_24 : decode cX1_init 24 = .ok (.bipush 8, 2) := by decide +kernel
theorem dX1_init_26 : decode cX1_init 26 = .ok (.newarray .int, 2) := by decide +kernel
theorem dX1_init_28 : decode cX1_init 28 = .ok (.putfield 22, 3) := by decide +kernel
theorem dX1_init_31 : decode cX1_init 31 = .ok (.aload_n 0, 1) := by decide +kernel
theorem dX1_init_32 : decode cX1_init 32 = .ok (.sipush 180, 3) := by decide +kernel
theorem dX1_init_35 : decode cX1_init 35 = .ok (.newarray .int, 2) := by decide +kernel
theorem dX1_init_37 : decode cX1_init 37 = .ok (.putfield 25, 3) := by decide +kernel
theorem dX1_init_40 : decode cX1_init 40 = .ok (.aload_n 0, 1) := by decide +kernel
theorem dX1_init_41 : decode cX1_init 41 = .ok (.sipush 180, 3) := by decide +kernel
theorem dX1_init_44 : decode cX1_init 44 = .ok (.newarray .int, 2) := by decide +kernel
theorem dX1_init_46 : decode cX1_init 46 = .ok (.putfield 28, 3) := by decide +kernel
theorem dX1_init_49 : decode cX1_init 49 = .ok (.aload_n 0, 1) := by decide +kernel
theorem dX1_init_50 : decode cX1_init 50 = .ok (.bipush 12, 2) := by decide +kernel
theorem dX1_init_52 : decode cX1_init 52 = .ok (.newarray .int, 2) := by decide +kernel
theorem dX1_init_54 : decode cX1_init 54 = .ok (.putfield 31, 3) := by decide +kernel
theorem dX1_init_57 : decode cX1_init 57 = .ok (.aload_n 0, 1) := by decide +kernel
theorem dX1_init_58 : decode cX1_init 58 = .ok (.iconst 4, 1) := by decide +kernel
theorem dX1_init_59 : decode cX1_init 59 = .ok (.newarray .int, 2) := by decide +kernel
theorem dX1_init_61 : decode cX1_init 61 = .ok (.putfield 34, 3) := by decide +kernel
theorem dX1_init_64 : decode cX1_init 64 = .ok (.aload_n 0, 1) := by decide +kernel
theorem dX1_init_65 : decode cX1_init 65 = .ok (.iconst 4, 1) := by decide +kernel
theorem dX1_init_66 : decode cX1_init 66 = .ok (.newarray .int, 2) := by decide +kernel
theorem dX1_init_68 : decode cX1_init 68 = .ok (.putfield 37, 3) := by decide +kernel
theorem dX1_init_71 : decode cX1_init 71 = .ok (.aload_n 0, 1) := by decide +kernel
theorem dX1_init_72 : decode cX1_init 72 = .ok (.iconst 4, 1) := by decide +kernel
theorem dX1_init_73 : decode cX1_init 73 = .ok (.newarray .int, 2) := by decide +kernel
theorem dX1_init_75 : decode cX1_init 75 = .ok (.putfield 40, 3) := by decide +kernel
theorem dX1_init_78 : decode cX1_init 78 = .ok (.aload_n 0, 1) := by decide +kernel
theorem dX1_init_79 : decode cX1_init 79 = .ok (.iconst 4, 1) := by decide +kernel
theorem dX1_init_80 : decode cX1_init 80 = .ok (.newarray .int, 2) := by decide +kernel
theorem dX1_init_82 : decode cX1_init 82 = .ok (.putfield 43, 3) := by decide +kernel
theorem dX1_init_85 : decode cX1_init 85 = .ok (.aload_n 0, 1) := by decide +kernel
theorem dX1_init_86 : decode cX1_init 86 = .ok (.bipush 96, 2) := by decide +kernel
theorem dX1_init_88 : decode cX1_init 88 = .ok (.newarray .int, 2) := by decide +kernel
theorem dX1_init_90 : decode cX1_init 90 = .ok (.putfield 46, 3) := by decide +kernel
theorem dX1_init_93 : decode cX1_init 93 = .ok (.aload_n 0, 1) := by decide +kernel
theorem dX1_init_94 : decode cX1_init 94 = .ok (.aload_n 1, 1) := by decide +kernel
theorem dX1_init_95 : decode cX1_init 95 = .ok (.putfield 49, 3) := by decide +kernel
theorem dX1_init_98 : decode cX1_init 98 = .ok (.aload_n 0, 1) := by decide +kernel
theorem dX1_init_99 : decode cX1_init 99 = .ok (.aload_n 2, 1) := by decide +kernel
theorem dX1_init_100 : decode cX1_init 100 = .ok (.putfield 53, 3) := by decide +kernel
theorem dX1_init_103 : decode cX1_init 103 = .ok (.aload_n 0, 1) := by decide +kernel
theorem dX1_init_104 : decode cX1_init 104 = .ok (.new 56, 3) := by decide +kernel
theorem dX1_init_107 : decode cX1_init 107 = .ok (.dup, 1) := by decide +kernel
theorem dX1_init_108 : decode cX1_init 108 = .ok (.aload_n 1, 1) := by decide +kernel
theorem dX1_init_109 : decode cX1_init 109 = .ok (.invokespecial 58, 3) := by decide +kernel
theorem dX1_init_112 : decode cX1_init 112 = .ok (.putfield 61, 3) := by decide +kernel
theorem dX1_init_115 : decode cX1_init 115 = .ok (.return_, 1) := by decide +kernel
theorem dX1_layNothing_0 : decode cX1_layNothing 0 = .ok (.aload_n 0, 1) := by decide +kernel
theorem dX1_layNothing_1 : decode cX1_layNothing 1 = .ok (.iconst 0, 1) := by decide +kernel
theorem dX1_layNothing_2 : decode cX1_layNothing 2 = .ok (.putfield 65, 3) := by decide +kernel
theorem dX1_layNothing_5 : decode cX1_layNothing 5 = .ok (.return_, 1) := by decide +kernel
theorem dX1_lay_0 : decode cX1_lay 0 = .ok (.aload_n 0, 1) := by decide +kernel
theorem dX1_lay_1 : decode cX1_lay 1 = .ok (.getfield 65, 3) := by decide +kernel
theorem dX1_lay_4 : decode cX1_lay 4 = .ok (.ifCond .lt 35, 3) := by decide +kernel
theorem dX1_lay_7 : decode cX1_lay 7 = .ok (.aload_n 0, 1) := by decide +kernel
theorem dX1_lay_8 : decode cX1_lay 8 = .ok (.getfield 65, 3) := by decide +kernel
theorem dX1_lay_11 : decode cX1_lay 11 = .ok (.aload_n 0, 1) := by decide +kernel
theorem dX1_lay_12 : decode cX1_lay 12 = .ok (.getfield 18, 3) := by decide +kernel
theorem dX1_lay_15 : decode cX1_lay 15 = .ok (.arraylength, 1) := by decide +kernel
theorem dX1_lay_16 : decode cX1_lay 16 = .ok (.if_icmp .ge 23, 3) := by decide +kernel
theorem dX1_lay_19 : decode cX1_lay 19 = .ok (.aload_n 0, 1) := by decide +kernel
theorem dX1_lay_20 : decode cX1_lay 20 = .ok (.getfield 18, 3) := by decide +kernel
theorem dX1_lay_23 : decode cX1_lay 23 = .ok (.aload_n 0, 1) := by decide +kernel
theorem dX1_lay_24 : decode cX1_lay 24 = .ok (.getfield 65, 3) := by decide +kernel
theorem dX1_lay_27 : decode cX1_lay 27 = .ok (.iload_n 1, 1) := by decide +kernel
theorem dX1_lay_28 : decode cX1_lay 28 = .ok (.iastore, 1) := by decide +kernel
theorem dX1_lay_29 : decode cX1_lay 29 = .ok (.aload_n 0, 1) := by decide +kernel
theorem dX1_lay_30 : decode cX1_lay 30 = .ok (.dup, 1) := by decide +kernel
theorem dX1_lay_31 : decode cX1_lay 31 = .ok (.getfield 65, 3) := by decide +kernel
theorem dX1_lay_34 : decode cX1_lay 34 = .ok (.iconst 1, 1) := by decide +kernel
theorem dX1_lay_35 : decode cX1_lay 35 = .ok (.iadd, 1) := by decide +kernel
theorem dX1_lay_36 : decode cX1_lay 36 = .ok (.putfield 65, 3) := by decide +kernel
theorem dX1_lay_39 : decode cX1_lay 39 = .ok (.return_, 1) := by decide +kernel
theorem dX1_tellLying_0 : decode cX1_tellLying 0 = .ok (.iload_n 1, 1) := by decide +kernel
theorem dX1_tellLying_1 : decode cX1_tellLying 1 = .ok (.ifCond .lt 29, 3) := by decide +kernel
theorem dX1_tellLying_4 : decode cX1_tellLying 4 = .ok (.iload_n 1, 1) := by decide +kernel
theorem dX1_tellLying_5 : decode cX1_tellLying 5 = .ok (.aload_n 0, 1) := by decide +kernel
theorem dX1_tellLying_6 : decode cX1_tellLying 6 = .ok (.getfield 65, 3) := by decide +kernel
theorem dX1_tellLying_9 : decode cX1_tellLying 9 = .ok (.if_icmp .ge 21, 3) := by decide +kernel
theorem dX1_tellLying_12 : decode cX1_tellLying 12 = .ok (.iload_n 1, 1) := by decide +kernel
theorem dX1_tellLying_13 : decode cX1_tellLying 13 = .ok (.aload_n 0, 1) := by decide +kernel
theorem dX1_tellLying_14 : decode cX1_tellLying 14 = .ok (.getfield 18, 3) := by decide +kernel
theorem dX1_tellLying_17 : decode cX1_tellLying 17 = .ok (.arraylength, 1) := by decide +kernel
theorem dX1_tellLying_18 : decode cX1_tellLying 18 = .ok (.if_icmp .ge 12, 3) := by decide +kernel
theorem dX1_tellLying_21 : decode cX1_tellLying 21 = .ok (.aload_n 0, 1) := by decide +kernel
theorem dX1_tellLying_22 : decode cX1_tellLying 22 = .ok (.getfield 18, 3) := by decide +kernel
theorem dX1_tellLying_25 : decode cX1_tellLying 25 = .ok (.iload_n 1, 1) := by decide +kernel
theorem dX1_tellLying_26 : decode cX1_tellLying 26 = .ok (.iaload, 1) := by decide +kernel
theorem dX1_tellLying_27 : decode cX1_tellLying 27 = .ok (.goto 4, 3) := by decide +kernel
theorem dX1_tellLying_30 : decode cX1_tellLying 30 = .ok (.iconst (-1), 1) := by decide +kernel
theorem dX1_tellLying_31 : decode cX1_tellLying 31 = .ok (.ireturn, 1) := by decide +kernel
theorem dX1_layShortest_0 : decode cX1_layShortest 0 = .ok (.aload_n 0, 1) := by decide +kernel
theorem dX1_layShortest_1 : decode cX1_layShortest 1 = .ok (.invokevirtual 69, 3) := by decide +kernel
theorem dX1_layShortest_4 : decode cX1_layShortest 4 = .ok (.aload_n 0, 1) := by decide +kernel
theorem dX1_layShortest_5 : decode cX1_layShortest 5 = .ok (.iload_n 1, 1) := by decide +kernel
theorem dX1_layShortest_6 : decode cX1_layShortest 6 = .ok (.iload_n 2, 1) := by decide +kernel
theorem dX1_layShortest_7 : decode cX1_layShortest 7 = .ok (.invokevirtual 72, 3) := by decide +kernel
theorem dX1_layShortest_10 : decode cX1_layShortest 10 = .ok (.istore_n 3, 1) := by decide +kernel
theorem dX1_layShortest_11 : decode cX1_layShortest 11 = .ok (.iload_n 3, 1) := by decide +kernel
theorem dX1_layShortest_12 : decode cX1_layShortest 12 = .ok (.iconst (-1), 1) := by decide +kernel
theorem dX1_layShortest_13 : decode cX1_layShortest 13 = .ok (.if_icmp .ne 5, 3) := by decide +kernel
theorem dX1_layShortest_16 : decode cX1_layShortest 16 = .ok (.iconst (-1), 1) := by decide +kernel
theorem dX1_layShortest_17 : decode cX1_layShortest 17 = .ok (.ireturn, 1) := by decide +kernel
theorem dX1_layShortest_18 : decode cX1_layShortest 18 = .ok (.iconst 0, 1) := by decide +kernel
theorem dX1_layShortest_19 : decode cX1_layShortest 19 = .ok (.istore 4, 2) := by decide +kernel
theorem dX1_layShortest_21 : decode cX1_layShortest 21 = .ok (.iload 4, 2) := by decide +kernel
theorem dX1_layShortest_23 : decode cX1_layShortest 23 = .ok (.aload_n 0, 1) := by decide +kernel
theorem dX1_layShortest_24 : decode cX1_layShortest 24 = .ok (.getfield 12, 3) := by decide +kernel
theorem dX1_layShortest_27 : decode cX1_layShortest 27 = .ok (.getfield 76, 3) := by decide +kernel
theorem dX1_layShortest_30 : decode cX1_layShortest 30 = .ok (.if_icmp .ge 30, 3) := by decide +kernel
theorem dX1_layShortest_33 : decode cX1_layShortest 33 = .ok (.iload 4, 2) := by decide +kernel
theorem dX1_layShortest_35 : decode cX1_layShortest 35 = .ok (.bipush 12, 2) := by decide +kernel
theorem dX1_layShortest_37 : decode cX1_layShortest 37 = .ok (.if_icmp .ge 23, 3) := by decide +kernel
theorem dX1_layShortest_40 : decode cX1_layShortest 40 = .ok (.aload_n 0, 1) := by decide +kernel
theorem dX1_layShortest_41 : decode cX1_layShortest 41 = .ok (.aload_n 0, 1) := by decide +kernel
theorem dX1_layShortest_42 : decode cX1_layShortest 42 = .ok (.getfield 12, 3) := by decide +kernel
theorem dX1_layShortest_45 : decode cX1_layShortest 45 = .ok (.getfield 79, 3) := by decide +kernel
theorem dX1_layShortest_48 : decode cX1_layShortest 48 = .ok (.iload 4, 2) := by decide +kernel
theorem dX1_layShortest_50 : decode cX1_layShortest 50 = .ok (.iaload, 1) := by decide +kernel
theorem dX1_layShortest_51 : decode cX1_layShortest 51 = .ok (.invokevirtual 82, 3) := by decide +kernel
theorem dX1_layShortest_54 : decode cX1_layShortest 54 = .ok (.iinc 4 1, 3) := by decide +kernel
theorem dX1_layShortest_57 : decode cX1_layShortest 57 = .ok (.goto (-36), 3) := by decide +kernel
theorem dX1_layShortest_60 : decode cX1_layShortest 60 = .ok (.iload_n 3, 1) := by decide +kernel
theorem dX1_layShortest_61 : decode cX1_layShortest 61 = .ok (.ireturn, 1) := by decide +kernel
theorem dX1_findPath_0 : decode cX1_findPath 0 = .ok (.aload_n 0, 1) := by decide +kernel
theorem dX1_findPath_1 : decode cX1_findPath 1 = .ok (.getfield 49, 3) := by decide +kernel
theorem dX1_findPath_4 : decode cX1_findPath 4 = .ok (.iload_n 1, 1) := by decide +kernel
theorem dX1_findPath_5 : decode cX1_findPath 5 = .ok (.invokevirtual 86, 3) := by decide +kernel
theorem dX1_findPath_8 : decode cX1_findPath 8 = .ok (.ifCond .eq 14, 3) := by decide +kernel
theorem dX1_findPath_11 : decode cX1_findPath 11 = .ok (.aload_n 0, 1) := by decide +kernel
theorem dX1_findPath_12 : decode cX1_findPath 12 = .ok (.getfield 49, 3) := by decide +kernel
theorem dX1_findPath_15 : decode cX1_findPath 15 = .ok (.iload_n 2, 1) := by decide +kernel
theorem dX1_findPath_16 : decode cX1_findPath 16 = .ok (.invokevirtual 86, 3) := by decide +kernel
theorem dX1_findPath_19 : decode cX1_findPath 19 = .ok (.ifCond .ne 5, 3) := by decide +kernel
theorem dX1_findPath_22 : decode cX1_findPath 22 = .ok (.iconst (-1), 1) := by decide +kernel
theorem dX1_findPath_23 : decode cX1_findPath 23 = .ok (.ireturn, 1) := by decide +kernel
theorem dX1_findPath_24 : decode cX1_findPath 24 = .ok (.aload_n 0, 1) := by decide +kernel
theorem dX1_findPath_25 : decode cX1_findPath 25 = .ok (.iload_n 2, 1) := by decide +kernel
theorem dX1_findPath_26 : decode cX1_findPath 26 = .ok (.invokevirtual 92, 3) := by decide +kernel
theorem dX1_findPath_29 : decode cX1_findPath 29 = .ok (.aload_n 0, 1) := by decide +kernel
theorem dX1_findPath_30 : decode cX1_findPath 30 = .ok (.getfield 22, 3) := by decide +kernel
theorem dX1_findPath_33 : decode cX1_findPath 33 = .ok (.iload_n 1, 1) := by decide +kernel
theorem dX1_findPath_34 : decode cX1_findPath 34 = .ok (.iaload, 1) := by decide +kernel
theorem dX1_findPath_35 : decode cX1_findPath 35 = .ok (.ldc 95, 2) := by decide +kernel
theorem dX1_findPath_37 : decode cX1_findPath 37 = .ok (.if_icmp .lt 5, 3) := by decide +kernel
theorem dX1_findPath_40 : decode cX1_findPath 40 = .ok (.iconst (-1), 1) := by decide +kernel
theorem dX1_findPath_41 : decode cX1_findPath 41 = .ok (.ireturn, 1) := by decide +kernel
theorem dX1_findPath_42 : decode cX1_findPath 42 = .ok (.aload_n 0, 1) := by decide +kernel
theorem dX1_findPath_43 : decode cX1_findPath 43 = .ok (.getfield 12, 3) := by decide +kernel
theorem dX1_findPath_46 : decode cX1_findPath 46 = .ok (.iload_n 1, 1) := by decide +kernel
theorem dX1_findPath_47 : decode cX1_findPath 47 = .ok (.invokevirtual 96, 3) := by decide +kernel
theorem dX1_findPath_50 : decode cX1_findPath 50 = .ok (.iconst 0, 1) := by decide +kernel
theorem dX1_findPath_51 : decode cX1_findPath 51 = .ok (.istore_n 3, 1) := by decide +kernel
theorem dX1_findPath_52 : decode cX1_findPath 52 = .ok (.iload_n 3, 1) := by decide +kernel
theorem dX1_findPath_53 : decode cX1_findPath 53 = .ok (.bipush 8, 2) := by decide +kernel
theorem dX1_findPath_55 : decode cX1_findPath 55 = .ok (.if_icmp .ge 43, 3) := by decide +kernel
theorem dX1_findPath_58 : decode cX1_findPath 58 = .ok (.aload_n 0, 1) := by decide +kernel
theorem dX1_findPath_59 : decode cX1_findPath 59 = .ok (.getfield 12, 3) := by decide +kernel
theorem dX1_findPath_62 : decode cX1_findPath 62 = .ok (.getfield 99, 3) := by decide +kernel
theorem dX1_findPath_65 : decode cX1_findPath 65 = .ok (.iload_n 2, 1) := by decide +kernel
theorem dX1_findPath_66 : decode cX1_findPath 66 = .ok (.if_icmp .eq 32, 3) := by decide +kernel
theorem dX1_findPath_69 : decode cX1_findPath 69 = .ok (.aload_n 0, 1) := by decide +kernel
theorem dX1_findPath_70 : decode cX1_findPath 70 = .ok (.getfield 12, 3) := by decide +kernel
theorem dX1_findPath_73 : decode cX1_findPath 73 = .ok (.aload_n 0, 1) := by decide +kernel
theorem dX1_findPath_74 : decode cX1_findPath 74 = .ok (.getfield 49, 3) := by decide +kernel
theorem dX1_findPath_77 : decode cX1_findPath 77 = .ok (.aload_n 0, 1) := by decide +kernel
theorem dX1_findPath_78 : decode cX1_findPath 78 = .ok (.aload_n 0, 1) := by decide +kernel
theorem dX1_findPath_79 : decode cX1_findPath 79 = .ok (.getfield 12, 3) := by decide +kernel
theorem dX1_findPath_82 : decode cX1_findPath 82 = .ok (.getfield 99, 3) := by decide +kernel
theorem dX1_findPath_85 : decode cX1_findPath 85 = .ok (.invokevirtual 102, 3) := by decide +kernel
theorem dX1_findPath_88 : decode cX1_findPath 88 = .ok (.invokevirtual 106, 3) := by decide +kernel
theorem dX1_findPath_91 : decode cX1_findPath 91 = .ok (.pop, 1) := by decide +kernel
theorem dX1_findPath_92 : decode cX1_findPath 92 = .ok (.iinc 3 1, 3) := by decide +kernel
theorem dX1_findPath_95 : decode cX1_findPath 95 = .ok (.goto (-43), 3) := by decide +kernel
theorem dX1_findPath_98 : decode cX1_findPath 98 = .ok (.aload_n 0, 1) := by decide +kernel
theorem dX1_findPath_99 : decode cX1_findPath 99 = .ok (.getfield 22, 3) := by decide +kernel
theorem dX1_findPath_102 : decode cX1_findPath 102 = .ok (.iload_n 1, 1) := by decide +kernel
theorem dX1_findPath_103 : decode cX1_findPath 103 = .ok (.iaload, 1) := by decide +kernel
theorem dX1_findPath_104 : decode cX1_findPath 104 = .ok (.ireturn, 1) := by decide +kernel
theorem dX1_lookHowFar_0 : decode cX1_lookHowFar 0 = .ok (.iconst 0, 1) := by decide +kernel
theorem dX1_lookHowFar_1 : decode cX1_lookHowFar 1 = .ok (.istore_n 2, 1) := by decide +kernel
theorem dX1_lookHowFar_2 : decode cX1_lookHowFar 2 = .ok (.iload_n 2, 1) := by decide +kernel
theorem dX1_lookHowFar_3 : decode cX1_lookHowFar 3 = .ok (.bipush 8, 2) := by decide +kernel
theorem dX1_lookHowFar_5 : decode cX1_lookHowFar 5 = .ok (.if_icmp .ge 26, 3) := by decide +kernel
theorem dX1_lookHowFar_8 : decode cX1_lookHowFar 8 = .ok (.aload_n 0, 1) := by decide +kernel
theorem dX1_lookHowFar_9 : decode cX1_lookHowFar 9 = .ok (.getfield 22, 3) := by decide +kernel
theorem dX1_lookHowFar_12 : decode cX1_lookHowFar 12 = .ok (.iload_n 2, 1) := by decide +kernel
theorem dX1_lookHowFar_13 : decode cX1_lookHowFar 13 = .ok (.iload_n 2, 1) := by decide +kernel
theorem dX1_lookHowFar_14 : decode cX1_lookHowFar 14 = .ok (.iload_n 1, 1) := by decide +kernel
theorem dX1_lookHowFar_15 : decode cX1_lookHowFar 15 = .ok (.if_icmp .ne 7, 3) := by decide +kernel
theorem dX1_lookHowFar_18 : decode cX1_lookHowFar 18 = .ok (.iconst 0, 1) := by decide +kernel
theorem dX1_lookHowFar_19 : decode cX1_lookHowFar 19 = .ok (.goto 5, 3) := by decide +kernel
theorem dX1_lookHowFar_22 : decode cX1_lookHowFar 22 = .ok (.ldc 95, 2) := by decide +kernel
theorem dX1_lookHowFar_24 : decode cX1_lookHowFar 24 = .ok (.iastore, 1) := by decide +kernel
theorem dX1_lookHowFar_25 : decode cX1_lookHowFar 25 = .ok (.iinc 2 1, 3) := by decide +kernel
theorem dX1_lookHowFar_28 : decode cX1_lookHowFar 28 = .ok (.goto (-26), 3) := by decide +kernel
theorem dX1_lookHowFar_31 : decode cX1_lookHowFar 31 = .ok (.iconst 0, 1) := by decide +kernel
theorem dX1_lookHowFar_32 : decode cX1_lookHowFar 32 = .ok (.istore_n 2, 1) := by decide +kernel
theorem dX1_lookHowFar_33 : decode cX1_lookHowFar 33 = .ok (.iload_n 2, 1) := by decide +kernel
theorem dX1_lookHowFar_34 : decode cX1_lookHowFar 34 = .ok (.bipush 8, 2) := by decide +kernel
theorem dX1_lookHowFar_36 : decode cX1_lookHowFar 36 = .ok (.if_icmp .ge 148, 3) := by decide +kernel
theorem dX1_lookHowFar_39 : decode cX1_lookHowFar 39 = .ok (.iconst 0, 1) := by decide +kernel
theorem dX1_lookHowFar_40 : decode cX1_lookHowFar 40 = .ok (.istore_n 3, 1) := by decide +kernel
theorem dX1_lookHowFar_41 : decode cX1_lookHowFar 41 = .ok (.iload_n 3, 1) := by decide +kernel
theorem dX1_lookHowFar_42 : decode cX1_lookHowFar 42 = .ok (.aload_n 0, 1) := by decide +kernel
theorem dX1_lookHowFar_43 : decode cX1_lookHowFar 43 = .ok (.getfield 49, 3) := by decide +kernel
theorem dX1_lookHowFar_46 : decode cX1_lookHowFar 46 = .ok (.getfield 110, 3) := by decide +kernel
theorem dX1_lookHowFar_49 : decode cX1_lookHowFar 49 = .ok (.if_icmp .ge 129, 3) := by decide +kernel
theorem dX1_lookHowFar_52 : decode cX1_lookHowFar 52 = .ok (.iload_n 3, 1) := by decide +kernel
theorem dX1_lookHowFar_53 : decode cX1_lookHowFar 53 = .ok (.bipush 14, 2) := by decide +kernel
theorem dX1_lookHowFar_55 : decode cX1_lookHowFar 55 = .ok (.if_icmp .ge 123, 3) := by decide +kernel
theorem dX1_lookHowFar_58 : decode cX1_lookHowFar 58 = .ok (.aload_n 0, 1) := by decide +kernel
theorem dX1_lookHowFar_59 : decode cX1_lookHowFar 59 = .ok (.getfield 49, 3) := by decide +kernel
theorem dX1_lookHowFar_62 : decode cX1_lookHowFar 62 = .ok (.getfield 112, 3) := by decide +kernel
theorem dX1_lookHowFar_65 : decode cX1_lookHowFar 65 = .ok (.iload_n 3, 1) := by decide +kernel
theorem dX1_lookHowFar_66 : decode cX1_lookHowFar 66 = .ok (.iaload, 1) := by decide +kernel
theorem dX1_lookHowFar_67 : decode cX1_lookHowFar 67 = .ok (.istore 4, 2) := by decide +kernel
theorem dX1_lookHowFar_69 : decode cX1_lookHowFar 69 = .ok (.aload_n 0, 1) := by decide +kernel
theorem dX1_lookHowFar_70 : decode cX1_lookHowFar 70 = .ok (.getfield 49, 3) := by decide +kernel
theorem dX1_lookHowFar_73 : decode cX1_lookHowFar 73 = .ok (.getfield 115, 3) := by decide +kernel
theorem dX1_lookHowFar_76 : decode cX1_lookHowFar 76 = .ok (.iload_n 3, 1) := by decide +kernel
theorem dX1_lookHowFar_77 : decode cX1_lookHowFar 77 = .ok (.iaload, 1) := by decide +kernel
theorem dX1_lookHowFar_78 : decode cX1_lookHowFar 78 = .ok (.istore 5, 2) := by decide +kernel
theorem dX1_lookHowFar_80 : decode cX1_lookHowFar 80 = .ok (.aload_n 0, 1) := by decide +kernel
theorem dX1_lookHowFar_81 : decode cX1_lookHowFar 81 = .ok (.getfield 49, 3) := by decide +kernel
theorem dX1_lookHowFar_84 : decode cX1_lookHowFar 84 = .ok (.iload 4, 2) := by decide +kernel
theorem dX1_lookHowFar_86 : decode cX1_lookHowFar 86 = .ok (.invokevirtual 86, 3) := by decide +kernel
theorem dX1_lookHowFar_89 : decode cX1_lookHowFar 89 = .ok (.ifCond .eq 83, 3) := by decide +kernel
theorem dX1_lookHowFar_92 : decode cX1_lookHowFar 92 = .ok (.aload_n 0, 1) := by decide +kernel
theorem dX1_lookHowFar_93 : decode cX1_lookHowFar 93 = .ok (.getfield 49, 3) := by decide +kernel
theorem dX1_lookHowFar_96 : decode cX1_lookHowFar 96 = .ok (.iload 5, 2) := by decide +kernel
theorem dX1_lookHowFar_98 : decode cX1_lookHowFar 98 = .ok (.invokevirtual 86, 3) := by decide +kernel
theorem dX1_lookHowFar_101 : decode cX1_lookHowFar 101 = .ok (.ifCond .eq 71, 3) := by decide +kernel
theorem dX1_lookHowFar_104 : decode cX1_lookHowFar 104 = .ok (.aload_n 0, 1) := by decide +kernel
theorem dX1_lookHowFar_105 : decode cX1_lookHowFar 105 = .ok (.getfield 22, 3) := by decide +kernel
theorem dX1_lookHowFar_108 : decode cX1_lookHowFar 108 = .ok (.iload 4, 2) := by decide +kernel
theorem dX1_lookHowFar_110 : decode cX1_lookHowFar 110 = .ok (.aload_n 0, 1) := by decide +kernel
theorem dX1_lookHowFar_111 : decode cX1_lookHowFar 111 = .ok (.getfield 22, 3) := by decide +kernel
theorem dX1_lookHowFar_114 : decode cX1_lookHowFar 114 = .ok (.iload 4, 2) := by decide +kernel
theorem dX1_lookHowFar_116 : decode cX1_lookHowFar 116 = .ok (.iaload, 1) := by decide +kernel
theorem dX1_lookHowFar_117 : decode cX1_lookHowFar 117 = .ok (.aload_n 0, 1) := by decide +kernel
theorem dX1_lookHowFar_118 : decode cX1_lookHowFar 118 = .ok (.getfield 22, 3) := by decide +kernel
theorem dX1_lookHowFar_121 : decode cX1_lookHowFar 121 = .ok (.iload 5, 2) := by decide +kernel
theorem dX1_lookHowFar_123 : decode cX1_lookHowFar 123 = .ok (.iaload, 1) := by decide +kernel
theorem dX1_lookHowFar_124 : decode cX1_lookHowFar 124 = .ok (.aload_n 0, 1) := by decide +kernel
theorem dX1_lookHowFar_125 : decode cX1_lookHowFar 125 = .ok (.getfield 49, 3) := by decide +kernel
theorem dX1_lookHowFar_128 : decode cX1_lookHowFar 128 = .ok (.getfield 118, 3) := by decide +kernel
theorem dX1_lookHowFar_131 : decode cX1_lookHowFar 131 = .ok (.iload_n 3, 1) := by decide +kernel
theorem dX1_lookHowFar_132 : decode cX1_lookHowFar 132 = .ok (.iaload, 1) := by decide +kernel
theorem dX1_lookHowFar_133 : decode cX1_lookHowFar 133 = .ok (.iadd, 1) := by decide +kernel
theorem dX1_lookHowFar_134 : decode cX1_lookHowFar 134 = .ok (.invokestatic 121, 3) := by decide +kernel
theorem dX1_lookHowFar_137 : decode cX1_lookHowFar 137 = .ok (.iastore, 1) := by decide +kernel
theorem dX1_lookHowFar_138 : decode cX1_lookHowFar 138 = .ok (.aload_n 0, 1) := by decide +kernel
theorem dX1_lookHowFar_139 : decode cX1_lookHowFar 139 = .ok (.getfield 22, 3) := by decide +kernel
theorem dX1_lookHowFar_142 : decode cX1_lookHowFar 142 = .ok (.iload 5, 2) := by decide +kernel
theorem dX1_lookHowFar_144 : decode cX1_lookHowFar 144 = .ok (.aload_n 0, 1) := by decide +kernel
theorem dX1_lookHowFar_145 : decode cX1_lookHowFar 145 = .ok (.getfield 22, 3) := by decide +kernel
theorem dX1_lookHowFar_148 : decode cX1_lookHowFar 148 = .ok (.iload 5, 2) := by decide +kernel
theorem dX1_lookHowFar_150 : decode cX1_lookHowFar 150 = .ok (.iaload, 1) := by decide +kernel
theorem dX1_lookHowFar_151 : decode cX1_lookHowFar 151 = .ok (.aload_n 0, 1) := by decide +kernel
theorem dX1_lookHowFar_152 : decode cX1_lookHowFar 152 = .ok (.getfield 22, 3) := by decide +kernel
theorem dX1_lookHowFar_155 : decode cX1_lookHowFar 155 = .ok (.iload 4, 2) := by decide +kernel
theorem dX1_lookHowFar_157 : decode cX1_lookHowFar 157 = .ok (.iaload, 1) := by decide +kernel
theorem dX1_lookHowFar_158 : decode cX1_lookHowFar 158 = .ok (.aload_n 0, 1) := by decide +kernel
theorem dX1_lookHowFar_159 : decode cX1_lookHowFar 159 = .ok (.getfield 49, 3) := by decide +kernel
theorem dX1_lookHowFar_162 : decode cX1_lookHowFar 162 = .ok (.getfield 118, 3) := by decide +kernel
theorem dX1_lookHowFar_165 : decode cX1_lookHowFar 165 = .ok (.iload_n 3, 1) := by decide +kernel
theorem dX1_lookHowFar_166 : decode cX1_lookHowFar 166 = .ok (.iaload, 1) := by decide +kernel
theorem dX1_lookHowFar_167 : decode cX1_lookHowFar 167 = .ok (.iadd, 1) := by decide +kernel
theorem dX1_lookHowFar_168 : decode cX1_lookHowFar 168 = .ok (.invokestatic 121, 3) := by decide +kernel
theorem dX1_lookHowFar_171 : decode cX1_lookHowFar 171 = .ok (.iastore, 1) := by decide +kernel
theorem dX1_lookHowFar_172 : decode cX1_lookHowFar 172 = .ok (.iinc 3 1, 3) := by decide +kernel
theorem dX1_lookHowFar_175 : decode cX1_lookHowFar 175 = .ok (.goto (-134), 3) := by decide +kernel
theorem dX1_lookHowFar_178 : decode cX1_lookHowFar 178 = .ok (.iinc 2 1, 3) := by decide +kernel
theorem dX1_lookHowFar_181 : decode cX1_lookHowFar 181 = .ok (.goto (-148), 3) := by decide +kernel
theorem dX1_lookHowFar_184 : decode cX1_lookHowFar 184 = .ok (.return_, 1) := by decide +kernel
theorem dX1_firstWayNearer_0 : decode cX1_firstWayNearer 0 = .ok (.iconst 0, 1) := by decide +kernel
theorem dX1_firstWayNearer_1 : decode cX1_firstWayNearer 1 = .ok (.istore_n 2, 1) := by decide +kernel
theorem dX1_firstWayNearer_2 : decode cX1_firstWayNearer 2 = .ok (.iload_n 2, 1) := by decide +kernel
theorem dX1_firstWayNearer_3 : decode cX1_firstWayNearer 3 = .ok (.aload_n 0, 1) := by decide +kernel
theorem dX1_firstWayNearer_4 : decode cX1_firstWayNearer 4 = .ok (.getfield 49, 3) := by decide +kernel
theorem dX1_firstWayNearer_7 : decode cX1_firstWayNearer 7 = .ok (.getfield 110, 3) := by decide +kernel
theorem dX1_firstWayNearer_10 : decode cX1_firstWayNearer 10 = .ok (.if_icmp .ge 74, 3) := by decide +kernel
theorem dX1_firstWayNearer_13 : decode cX1_firstWayNearer 13 = .ok (.iload_n 2, 1) := by decide +kernel
theorem dX1_firstWayNearer_14 : decode cX1_firstWayNearer 14 = .ok (.bipush 14, 2) := by decide +kernel
theorem dX1_firstWayNearer_16 : decode cX1_firstWayNearer 16 = .ok (.if_icmp .ge 68, 3) := by decide +kernel
theorem dX1_firstWayNearer_19 : decode cX1_firstWayNearer 19 = .ok (.aload_n 0, 1) := by decide +kernel
theorem dX1_firstWayNearer_20 : decode cX1_firstWayNearer 20 = .ok (.getfield 49, 3) := by decide +kernel
theorem dX1_firstWayNearer_23 : decode cX1_firstWayNearer 23 = .ok (.iload_n 2, 1) := by decide +kernel
theorem dX1_firstWayNearer_24 : decode cX1_firstWayNearer 24 = .ok (.iload_n 1, 1) := by decide +kernel
theorem dX1_firstWayNearer_25 : decode cX1_firstWayNearer 25 = .ok (.invokevirtual 126, 3) := by decide +kernel
theorem dX1_firstWayNearer_28 : decode cX1_firstWayNearer 28 = .ok (.istore_n 3, 1) := by decide +kernel
theorem dX1_firstWayNearer_29 : decode cX1_firstWayNearer 29 = .ok (.aload_n 0, 1) := by decide +kernel
theorem dX1_firstWayNearer_30 : decode cX1_firstWayNearer 30 = .ok (.getfield 49, 3) := by decide +kernel
theorem dX1_firstWayNearer_33 : decode cX1_firstWayNearer 33 = .ok (.iload_n 1, 1) := by decide +kernel
theorem dX1_firstWayNearer_34 : decode cX1_firstWayNearer 34 = .ok (.invokevirtual 86, 3) := by decide +kernel
theorem dX1_firstWayNearer_37 : decode cX1_firstWayNearer 37 = .ok (.ifCond .eq 41, 3) := by decide +kernel
theorem dX1_firstWayNearer_40 : decode cX1_firstWayNearer 40 = .ok (.aload_n 0, 1) := by decide +kernel
theorem dX1_firstWayNearer_41 : decode cX1_firstWayNearer 41 = .ok (.getfield 49, 3) := by decide +kernel
theorem dX1_firstWayNearer_44 : decode cX1_firstWayNearer 44 = .ok (.iload_n 3, 1) := by decide +kernel
theorem dX1_firstWayNearer_45 : decode cX1_firstWayNearer 45 = .ok (.invokevirtual 86, 3) := by decide +kernel
theorem dX1_firstWayNearer_48 : decode cX1_firstWayNearer 48 = .ok (.ifCond .eq 30, 3) := by decide +kernel
theorem dX1_firstWayNearer_51 : decode cX1_firstWayNearer 51 = .ok (.aload_n 0, 1) := by decide +kernel
theorem dX1_firstWayNearer_52 : decode cX1_firstWayNearer 52 = .ok (.getfield 22, 3) := by decide +kernel
theorem dX1_firstWayNearer_55 : decode cX1_firstWayNearer 55 = .ok (.iload_n 3, 1) := by decide +kernel
theorem dX1_firstWayNearer_56 : decode cX1_firstWayNearer 56 = .ok (.iaload, 1) := by decide +kernel
theorem dX1_firstWayNearer_57 : decode cX1_firstWayNearer 57 = .ok (.aload_n 0, 1) := by decide +kernel
theorem dX1_firstWayNearer_58 : decode cX1_firstWayNearer 58 = .ok (.getfield 49, 3) := by decide +kernel
theorem dX1_firstWayNearer_61 : decode cX1_firstWayNearer 61 = .ok (.getfield 118, 3) := by decide +kernel
theorem dX1_firstWayNearer_64 : decode cX1_firstWayNearer 64 = .ok (.iload_n 2, 1) := by decide +kernel
theorem dX1_firstWayNearer_65 : decode cX1_firstWayNearer 65 = .ok (.iaload, 1) := by decide +kernel
theorem dX1_firstWayNearer_66 : decode cX1_firstWayNearer 66 = .ok (.iadd, 1) := by decide +kernel
theorem dX1_firstWayNearer_67 : decode cX1_firstWayNearer 67 = .ok (.aload_n 0, 1) := by decide +kernel
theorem dX1_firstWayNearer_68 : decode cX1_firstWayNearer 68 = .ok (.getfield 22, 3) := by decide +kernel
theorem dX1_firstWayNearer_71 : decode cX1_firstWayNearer 71 = .ok (.iload_n 1, 1) := by decide +kernel
theorem dX1_firstWayNearer_72 : decode cX1_firstWayNearer 72 = .ok (.iaload, 1) := by decide +kernel
theorem dX1_firstWayNearer_73 : decode cX1_firstWayNearer 73 = .ok (.if_icmp .ne 5, 3) := by decide +kernel
theorem dX1_firstWayNearer_76 : decode cX1_firstWayNearer 76 = .ok (.iload_n 2, 1) := by decide +kernel
theorem dX1_firstWayNearer_77 : decode cX1_firstWayNearer 77 = .ok (.ireturn, 1) := by decide +kernel
theorem dX1_firstWayNearer_78 : decode cX1_firstWayNearer 78 = .ok (.iinc 2 1, 3) := by decide +kernel
theorem dX1_firstWayNearer_81 : decode cX1_firstWayNearer 81 = .ok (.goto (-79), 3) := by decide +kernel
theorem dX1_firstWayNearer_84 : decode cX1_firstWayNearer 84 = .ok (.iconst (-1), 1) := by decide +kernel
theorem dX1_firstWayNearer_85 : decode cX1_firstWayNearer 85 = .ok (.ireturn, 1) := by decide +kernel
theorem dX1_laySent_0 : decode cX1_laySent 0 = .ok (.aload_n 0, 1) := by decide +kernel
theorem dX1_laySent_1 : decode cX1_laySent 1 = .ok (.invokevirtual 69, 3) := by decide +kernel
theorem dX1_laySent_4 : decode cX1_laySent 4 = .ok (.aload_n 0, 1) := by decide +kernel
theorem dX1_laySent_5 : decode cX1_laySent 5 = .ok (.iload_n 1, 1) := by decide +kernel
theorem dX1_laySent_6 : decode cX1_laySent 6 = .ok (.iload_n 2, 1) := by decide +kernel
theorem dX1_laySent_7 : decode cX1_laySent 7 = .ok (.invokevirtual 72, 3) := by decide +kernel
theorem dX1_laySent_10 : decode cX1_laySent 10 = .ok (.iconst (-1), 1) := by decide +kernel
theorem dX1_laySent_11 : decode cX1_laySent 11 = .ok (.if_icmp .ne 5, 3) := by decide +kernel
theorem dX1_laySent_14 : decode cX1_laySent 14 = .ok (.iconst (-1), 1) := by decide +kernel
theorem dX1_laySent_15 : decode cX1_laySent 15 = .ok (.ireturn, 1) := by decide +kernel
theorem dX1_laySent_16 : decode cX1_laySent 16 = .ok (.iconst 0, 1) := by decide +kernel
theorem dX1_laySent_17 : decode cX1_laySent 17 = .ok (.istore_n 3, 1) := by decide +kernel
theorem dX1_laySent_18 : decode cX1_laySent 18 = .ok (.iconst 0, 1) := by decide +kernel
theorem dX1_laySent_19 : decode cX1_laySent 19 = .ok (.istore 4, 2) := by decide +kernel
theorem dX1_laySent_21 : decode cX1_laySent 21 = .ok (.iload 4, 2) := by decide +kernel
theorem dX1_laySent_23 : decode cX1_laySent 23 = .ok (.sipush 600, 3) := by decide +kernel
theorem dX1_laySent_26 : decode cX1_laySent 26 = .ok (.if_icmp .ge 67, 3) := by decide +kernel
theorem dX1_laySent_29 : decode cX1_laySent 29 = .ok (.aload_n 0, 1) := by decide +kernel
theorem dX1_laySent_30 : decode cX1_laySent 30 = .ok (.getfield 49, 3) := by decide +kernel
theorem dX1_laySent_33 : decode cX1_laySent 33 = .ok (.iload 4, 2) := by decide +kernel
theorem dX1_laySent_35 : decode cX1_laySent 35 = .ok (.invokevirtual 129, 3) := by decide +kernel
theorem dX1_laySent_38 : decode cX1_laySent 38 = .ok (.ifCond .eq 49, 3) := by decide +kernel
theorem dX1_laySent_41 : decode cX1_laySent 41 = .ok (.aload_n 0, 1) := by decide +kernel
theorem dX1_laySent_42 : decode cX1_laySent 42 = .ok (.iload 4, 2) := by decide +kernel
theorem dX1_laySent_44 : decode cX1_laySent 44 = .ok (.invokevirtual 132, 3) := by decide +kernel
theorem dX1_laySent_47 : decode cX1_laySent 47 = .ok (.ifCond .eq 40, 3) := by decide +kernel
theorem dX1_laySent_50 : decode cX1_laySent 50 = .ok (.iload_n 3, 1) := by decide +kernel
theorem dX1_laySent_51 : decode cX1_laySent 51 = .ok (.ifCond .ne 33, 3) := by decide +kernel
theorem dX1_laySent_54 : decode cX1_laySent 54 = .ok (.aload_n 0, 1) := by decide +kernel
theorem dX1_laySent_55 : decode cX1_laySent 55 = .ok (.iload 4, 2) := by decide +kernel
theorem dX1_laySent_57 : decode cX1_laySent 57 = .ok (.bipush 100, 2) := by decide +kernel
theorem dX1_laySent_59 : decode cX1_laySent 59 = .ok (.idiv, 1) := by decide +kernel
theorem dX1_laySent_60 : decode cX1_laySent 60 = .ok (.invokevirtual 82, 3) := by decide +kernel
theorem dX1_laySent_63 : decode cX1_laySent 63 = .ok (.aload_n 0, 1) := by decide +kernel
theorem dX1_laySent_64 : decode cX1_laySent 64 = .ok (.iload 4, 2) := by decide +kernel
theorem dX1_laySent_66 : decode cX1_laySent 66 = .ok (.bipush 10, 2) := by decide +kernel
theorem dX1_laySent_68 : decode cX1_laySent 68 = .ok (.idiv, 1) := by decide +kernel
theorem dX1_laySent_69 : decode cX1_laySent 69 = .ok (.bipush 10, 2) := by decide +kernel
theorem dX1_laySent_71 : decode cX1_laySent 71 = .ok (.irem, 1) := by decide +kernel
theorem dX1_laySent_72 : decode cX1_laySent 72 = .ok (.invokevirtual 82, 3) := by decide +kernel
theorem dX1_laySent_75 : decode cX1_laySent 75 = .ok (.aload_n 0, 1) := by decide +kernel
theorem dX1_laySent_76 : decode cX1_laySent 76 = .ok (.iload 4, 2) := by decide +kernel
theorem dX1_laySent_78 : decode cX1_laySent 78 = .ok (.bipush 10, 2) := by decide +kernel
theorem dX1_laySent_80 : decode cX1_laySent 80 = .ok (.irem, 1) := by decide +kernel
theorem dX1_laySent_81 : decode cX1_laySent 81 = .ok (.invokevirtual 82, 3) := by decide +kernel
theorem dX1_laySent_84 : decode cX1_laySent 84 = .ok (.iinc 3 1, 3) := by decide +kernel
theorem dX1_laySent_87 : decode cX1_laySent 87 = .ok (.iinc 4 1, 3) := by decide +kernel
theorem dX1_laySent_90 : decode cX1_laySent 90 = .ok (.goto (-69), 3) := by decide +kernel
theorem dX1_laySent_93 : decode cX1_laySent 93 = .ok (.iload_n 3, 1) := by decide +kernel
theorem dX1_laySent_94 : decode cX1_laySent 94 = .ok (.ireturn, 1) := by decide +kernel
theorem dX1_endsJustBehindPath_0 : decode cX1_endsJustBehindPath 0 = .ok (.aload_n 0, 1) := by decide +kernel
theorem dX1_endsJustBehindPath_1 : decode cX1_endsJustBehindPath 1 = .ok (.getfield 61, 3) := by decide +kernel
theorem dX1_endsJustBehindPath_4 : decode cX1_endsJustBehindPath 4 = .ok (.iload_n 1, 1) := by decide +kernel
theorem dX1_endsJustBehindPath_5 : decode cX1_endsJustBehindPath 5 = .ok (.invokevirtual 135, 3) := by decide +kernel
theorem dX1_endsJustBehindPath_8 : decode cX1_endsJustBehindPath 8 = .ok (.aload_n 0, 1) := by decide +kernel
theorem dX1_endsJustBehindPath_9 : decode cX1_endsJustBehindPath 9 = .ok (.getfield 61, 3) := by decide +kernel
theorem dX1_endsJustBehindPath_12 : decode cX1_endsJustBehindPath 12 = .ok (.aload_n 0, 1) := by decide +kernel
theorem dX1_endsJustBehindPath_13 : decode cX1_endsJustBehindPath 13 = .ok (.getfield 53, 3) := by decide +kernel
theorem dX1_endsJustBehindPath_16 : decode cX1_endsJustBehindPath 16 = .ok (.aload_n 0, 1) := by decide +kernel
theorem dX1_endsJustBehindPath_17 : decode cX1_endsJustBehindPath 17 = .ok (.getfield 12, 3) := by decide +kernel
theorem dX1_endsJustBehindPath_20 : decode cX1_endsJustBehindPath 20 = .ok (.invokevirtual 138, 3) := by decide +kernel
theorem dX1_endsJustBehindPath_23 : decode cX1_endsJustBehindPath 23 = .ok (.ifCond .eq 21, 3) := by decide +kernel
theorem dX1_endsJustBehindPath_26 : decode cX1_endsJustBehindPath 26 = .ok (.aload_n 0, 1) := by decide +kernel
theorem dX1_endsJustBehindPath_27 : decode cX1_endsJustBehindPath 27 = .ok (.getfield 61, 3) := by decide +kernel
theorem dX1_endsJustBehindPath_30 : decode cX1_endsJustBehindPath 30 = .ok (.aload_n 0, 1) := by decide +kernel
theorem dX1_endsJustBehindPath_31 : decode cX1_endsJustBehindPath 31 = .ok (.getfield 12, 3) := by decide +kernel
theorem dX1_endsJustBehindPath_34 : decode cX1_endsJustBehindPath 34 = .ok (.invokevirtual 142, 3) := by decide +kernel
theorem dX1_endsJustBehindPath_37 : decode cX1_endsJustBehindPath 37 = .ok (.ifCond .eq 7, 3) := by decide +kernel
theorem dX1_endsJustBehindPath_40 : decode cX1_endsJustBehindPath 40 = .ok (.iconst 1, 1) := by decide +kernel
theorem dX1_endsJustBehindPath_41 : decode cX1_endsJustBehindPath 41 = .ok (.goto 4, 3) := by decide +kernel
theorem dX1_endsJustBehindPath_44 : decode cX1_endsJustBehindPath 44 = .ok (.iconst 0, 1) := by decide +kernel
theorem dX1_endsJustBehindPath_45 : decode cX1_endsJustBehindPath 45 = .ok (.ireturn, 1) := by decide +kernel
theorem dX1_setPath_0 : decode cX1_setPath 0 = .ok (.aload_n 0, 1) := by decide +kernel
theorem dX1_setPath_1 : decode cX1_setPath 1 = .ok (.getfield 49, 3) := by decide +kernel
theorem dX1_setPath_4 : decode cX1_setPath 4 = .ok (.iload_n 1, 1) := by decide +kernel
theorem dX1_setPath_5 : decode cX1_setPath 5 = .ok (.invokevirtual 146, 3) := by decide +kernel
theorem dX1_setPath_8 : decode cX1_setPath 8 = .ok (.ifCond .eq 48, 3) := by decide +kernel
theorem dX1_setPath_11 : decode cX1_setPath 11 = .ok (.aload_n 0, 1) := by decide +kernel
theorem dX1_setPath_12 : decode cX1_setPath 12 = .ok (.getfield 12, 3) := by decide +kernel
theorem dX1_setPath_15 : decode cX1_setPath 15 = .ok (.iload_n 2, 1) := by decide +kernel
theorem dX1_setPath_16 : decode cX1_setPath 16 = .ok (.ifCond .eq 15, 3) := by decide +kernel
theorem dX1_setPath_19 : decode cX1_setPath 19 = .ok (.aload_n 0, 1) := by decide +kernel
theorem dX1_setPath_20 : decode cX1_setPath 20 = .ok (.getfield 49, 3) := by decide +kernel
theorem dX1_setPath_23 : decode cX1_setPath 23 = .ok (.getfield 115, 3) := by decide +kernel
theorem dX1_setPath_26 : decode cX1_setPath 26 = .ok (.iload_n 1, 1) := by decide +kernel
theorem dX1_setPath_27 : decode cX1_setPath 27 = .ok (.iaload, 1) := by decide +kernel
theorem dX1_setPath_28 : decode cX1_setPath 28 = .ok (.goto 12, 3) := by decide +kernel
theorem dX1_setPath_31 : decode cX1_setPath 31 = .ok (.aload_n 0, 1) := by decide +kernel
theorem dX1_setPath_32 : decode cX1_setPath 32 = .ok (.getfield 49, 3) := by decide +kernel
theorem dX1_setPath_35 : decode cX1_setPath 35 = .ok (.getfield 112, 3) := by decide +kernel
theorem dX1_setPath_38 : decode cX1_setPath 38 = .ok (.iload_n 1, 1) := by decide +kernel
theorem dX1_setPath_39 : decode cX1_setPath 39 = .ok (.iaload, 1) := by decide +kernel
theorem dX1_setPath_40 : decode cX1_setPath 40 = .ok (.invokevirtual 96, 3) := by decide +kernel
theorem dX1_setPath_43 : decode cX1_setPath 43 = .ok (.aload_n 0, 1) := by decide +kernel
theorem dX1_setPath_44 : decode cX1_setPath 44 = .ok (.getfield 12, 3) := by decide +kernel
theorem dX1_setPath_47 : decode cX1_setPath 47 = .ok (.aload_n 0, 1) := by decide +kernel
theorem dX1_setPath_48 : decode cX1_setPath 48 = .ok (.getfield 49, 3) := by decide +kernel
theorem dX1_setPath_51 : decode cX1_setPath 51 = .ok (.iload_n 1, 1) := by decide +kernel
theorem dX1_setPath_52 : decode cX1_setPath 52 = .ok (.invokevirtual 106, 3) := by decide +kernel
theorem dX1_setPath_55 : decode cX1_setPath 55 = .ok (.pop, 1) := by decide +kernel
theorem dX1_setPath_56 : decode cX1_setPath 56 = .ok (.return_, 1) := by decide +kernel
theorem dX1_measurePath_0 : decode cX1_measurePath 0 = .ok (.iconst 1, 1) := by decide +kernel
theorem dX1_measurePath_1 : decode cX1_measurePath 1 = .ok (.istore_n 2, 1) := by decide +kernel
theorem dX1_measurePath_2 : decode cX1_measurePath 2 = .ok (.aload_n 0, 1) := by decide +kernel
theorem dX1_measurePath_3 : decode cX1_measurePath 3 = .ok (.getfield 61, 3) := by decide +kernel
theorem dX1_measurePath_6 : decode cX1_measurePath 6 = .ok (.iload_n 1, 1) := by decide +kernel
theorem dX1_measurePath_7 : decode cX1_measurePath 7 = .ok (.invokevirtual 135, 3) := by decide +kernel
theorem dX1_measurePath_10 : decode cX1_measurePath 10 = .ok (.iload_n 2, 1) := by decide +kernel
theorem dX1_measurePath_11 : decode cX1_measurePath 11 = .ok (.ldc 95, 2) := by decide +kernel
theorem dX1_measurePath_13 : decode cX1_measurePath 13 = .ok (.if_icmp .ge 52, 3) := by decide +kernel
theorem dX1_measurePath_16 : decode cX1_measurePath 16 = .ok (.aload_n 0, 1) := by decide +kernel
theorem dX1_measurePath_17 : decode cX1_measurePath 17 = .ok (.getfield 61, 3) := by decide +kernel
theorem dX1_measurePath_20 : decode cX1_measurePath 20 = .ok (.aload_n 0, 1) := by decide +kernel
theorem dX1_measurePath_21 : decode cX1_measurePath 21 = .ok (.getfield 53, 3) := by decide +kernel
theorem dX1_measurePath_24 : decode cX1_measurePath 24 = .ok (.aload_n 0, 1) := by decide +kernel
theorem dX1_measurePath_25 : decode cX1_measurePath 25 = .ok (.getfield 12, 3) := by decide +kernel
theorem dX1_measurePath_28 : decode cX1_measurePath 28 = .ok (.invokevirtual 138, 3) := by decide +kernel
theorem dX1_measurePath_31 : decode cX1_measurePath 31 = .ok (.ifCond .eq 34, 3) := by decide +kernel
theorem dX1_measurePath_34 : decode cX1_measurePath 34 = .ok (.aload_n 0, 1) := by decide +kernel
theorem dX1_measurePath_35 : decode cX1_measurePath 35 = .ok (.getfield 61, 3) := by decide +kernel
theorem dX1_measurePath_38 : decode cX1_measurePath 38 = .ok (.aload_n 0, 1) := by decide +kernel
theorem dX1_measurePath_39 : decode cX1_measurePath 39 = .ok (.getfield 12, 3) := by decide +kernel
theorem dX1_measurePath_42 : decode cX1_measurePath 42 = .ok (.invokevirtual 142, 3) := by decide +kernel
theorem dX1_measurePath_45 : decode cX1_measurePath 45 = .ok (.ifCond .ne 20, 3) := by decide +kernel
theorem dX1_measurePath_48 : decode cX1_measurePath 48 = .ok (.aload_n 0, 1) := by decide +kernel
theorem dX1_measurePath_49 : decode cX1_measurePath 49 = .ok (.getfield 61, 3) := by decide +kernel
theorem dX1_measurePath_52 : decode cX1_measurePath 52 = .ok (.getfield 149, 3) := by decide +kernel
theorem dX1_measurePath_55 : decode cX1_measurePath 55 = .ok (.iload_n 1, 1) := by decide +kernel
theorem dX1_measurePath_56 : decode cX1_measurePath 56 = .ok (.invokevirtual 153, 3) := by decide +kernel
theorem dX1_measurePath_59 : decode cX1_measurePath 59 = .ok (.iinc 2 1, 3) := by decide +kernel
theorem dX1_measurePath_62 : decode cX1_measurePath 62 = .ok (.goto (-52), 3) := by decide +kernel
theorem dX1_measurePath_65 : decode cX1_measurePath 65 = .ok (.iload_n 2, 1) := by decide +kernel
theorem dX1_measurePath_66 : decode cX1_measurePath 66 = .ok (.ireturn, 1) := by decide +kernel
theorem dX1_countAdding_0 : decode cX1_countAdding 0 = .ok (.iconst 0, 1) := by decide +kernel
theorem dX1_countAdding_1 : decode cX1_countAdding 1 = .ok (.istore_n 3, 1) := by decide +kernel
theorem dX1_countAdding_2 : decode cX1_countAdding 2 = .ok (.iconst 0, 1) := by decide +kernel
theorem dX1_countAdding_3 : decode cX1_countAdding 3 = .ok (.istore 4, 2) := by decide +kernel
theorem dX1_countAdding_5 : decode cX1_countAdding 5 = .ok (.iload 4, 2) := by decide +kernel
theorem dX1_countAdding_7 : decode cX1_countAdding 7 = .ok (.sipush 600, 3) := by decide +kernel
theorem dX1_countAdding_10 : decode cX1_countAdding 10 = .ok (.if_icmp .ge 85, 3) := by decide +kernel
theorem dX1_countAdding_13 : decode cX1_countAdding 13 = .ok (.aload_n 0, 1) := by decide +kernel
theorem dX1_countAdding_14 : decode cX1_countAdding 14 = .ok (.getfield 49, 3) := by decide +kernel
theorem dX1_countAdding_17 : decode cX1_countAdding 17 = .ok (.iload 4, 2) := by decide +kernel
theorem dX1_countAdding_19 : decode cX1_countAdding 19 = .ok (.invokevirtual 129, 3) := by decide +kernel
theorem dX1_countAdding_22 : decode cX1_countAdding 22 = .ok (.ifCond .eq 67, 3) := by decide +kernel
theorem dX1_countAdding_25 : decode cX1_countAdding 25 = .ok (.aload_n 0, 1) := by decide +kernel
theorem dX1_countAdding_26 : decode cX1_countAdding 26 = .ok (.iload_n 1, 1) := by decide +kernel
theorem dX1_countAdding_27 : decode cX1_countAdding 27 = .ok (.iconst 0, 1) := by decide +kernel
theorem dX1_countAdding_28 : decode cX1_countAdding 28 = .ok (.invokevirtual 156, 3) := by decide +kernel
theorem dX1_countAdding_31 : decode cX1_countAdding 31 = .ok (.aload_n 0, 1) := by decide +kernel
theorem dX1_countAdding_32 : decode cX1_countAdding 32 = .ok (.iload 4, 2) := by decide +kernel
theorem dX1_countAdding_34 : decode cX1_countAdding 34 = .ok (.invokevirtual 160, 3) := by decide +kernel
theorem dX1_countAdding_37 : decode cX1_countAdding 37 = .ok (.istore 5, 2) := by decide +kernel
theorem dX1_countAdding_39 : decode cX1_countAdding 39 = .ok (.aload_n 0, 1) := by decide +kernel
theorem dX1_countAdding_40 : decode cX1_countAdding 40 = .ok (.iload_n 2, 1) := by decide +kernel
theorem dX1_countAdding_41 : decode cX1_countAdding 41 = .ok (.iconst 0, 1) := by decide +kernel
theorem dX1_countAdding_42 : decode cX1_countAdding 42 = .ok (.invokevirtual 156, 3) := by decide +kernel
theorem dX1_countAdding_45 : decode cX1_countAdding 45 = .ok (.iload 5, 2) := by decide +kernel
theorem dX1_countAdding_47 : decode cX1_countAdding 47 = .ok (.aload_n 0, 1) := by decide +kernel
theorem dX1_countAdding_48 : decode cX1_countAdding 48 = .ok (.iload 4, 2) := by decide +kernel
theorem dX1_countAdding_50 : decode cX1_countAdding 50 = .ok (.invokevirtual 160, 3) := by decide +kernel
theorem dX1_countAdding_53 : decode cX1_countAdding 53 = .ok (.iadd, 1) := by decide +kernel
theorem dX1_countAdding_54 : decode cX1_countAdding 54 = .ok (.istore 5, 2) := by decide +kernel
theorem dX1_countAdding_56 : decode cX1_countAdding 56 = .ok (.aload_n 0, 1) := by decide +kernel
theorem dX1_countAdding_57 : decode cX1_countAdding 57 = .ok (.iload_n 1, 1) := by decide +kernel
theorem dX1_countAdding_58 : decode cX1_countAdding 58 = .ok (.iconst 0, 1) := by decide +kernel
theorem dX1_countAdding_59 : decode cX1_countAdding 59 = .ok (.invokevirtual 156, 3) := by decide +kernel
theorem dX1_countAdding_62 : decode cX1_countAdding 62 = .ok (.aload_n 0, 1) := by decide +kernel
theorem dX1_countAdding_63 : decode cX1_countAdding 63 = .ok (.getfield 12, 3) := by decide +kernel
theorem dX1_countAdding_66 : decode cX1_countAdding 66 = .ok (.aload_n 0, 1) := by decide +kernel
theorem dX1_countAdding_67 : decode cX1_countAdding 67 = .ok (.getfield 49, 3) := by decide +kernel
theorem dX1_countAdding_70 : decode cX1_countAdding 70 = .ok (.iload_n 2, 1) := by decide +kernel
theorem dX1_countAdding_71 : decode cX1_countAdding 71 = .ok (.invokevirtual 106, 3) := by decide +kernel
theorem dX1_countAdding_74 : decode cX1_countAdding 74 = .ok (.pop, 1) := by decide +kernel
theorem dX1_countAdding_75 : decode cX1_countAdding 75 = .ok (.aload_n 0, 1) := by decide +kernel
theorem dX1_countAdding_76 : decode cX1_countAdding 76 = .ok (.iload 4, 2) := by decide +kernel
theorem dX1_countAdding_78 : decode cX1_countAdding 78 = .ok (.invokevirtual 160, 3) := by decide +kernel
theorem dX1_countAdding_81 : decode cX1_countAdding 81 = .ok (.iload 5, 2) := by decide +kernel
theorem dX1_countAdding_83 : decode cX1_countAdding 83 = .ok (.if_icmp .ne 6, 3) := by decide +kernel
theorem dX1_countAdding_86 : decode cX1_countAdding 86 = .ok (.iinc 3 1, 3) := by decide +kernel
theorem dX1_countAdding_89 : decode cX1_countAdding 89 = .ok (.iinc 4 1, 3) := by decide +kernel
theorem dX1_countAdding_92 : decode cX1_countAdding 92 = .ok (.goto (-87), 3) := by decide +kernel
theorem dX1_countAdding_95 : decode cX1_countAdding 95 = .ok (.iload_n 3, 1) := by decide +kernel
theorem dX1_countAdding_96 : decode cX1_countAdding 96 = .ok (.ireturn, 1) := by decide +kernel
theorem dX1_countFair_0 : decode cX1_countFair 0 = .ok (.iconst 0, 1) := by decide +kernel
theorem dX1_countFair_1 : decode cX1_countFair 1 = .ok (.istore_n 1, 1) := by decide +kernel
theorem dX1_countFair_2 : decode cX1_countFair 2 = .ok (.iconst 0, 1) := by decide +kernel
theorem dX1_countFair_3 : decode cX1_countFair 3 = .ok (.istore_n 2, 1) := by decide +kernel
theorem dX1_countFair_4 : decode cX1_countFair 4 = .ok (.iload_n 2, 1) := by decide +kernel
theorem dX1_countFair_5 : decode cX1_countFair 5 = .ok (.sipush 600, 3) := by decide +kernel
theorem dX1_countFair_8 : decode cX1_countFair 8 = .ok (.if_icmp .ge 87, 3) := by decide +kernel
theorem dX1_countFair_11 : decode cX1_countFair 11 = .ok (.aload_n 0, 1) := by decide +kernel
theorem dX1_countFair_12 : decode cX1_countFair 12 = .ok (.getfield 49, 3) := by decide +kernel
theorem dX1_countFair_15 : decode cX1_countFair 15 = .ok (.iload_n 2, 1) := by decide +kernel
theorem dX1_countFair_16 : decode cX1_countFair 16 = .ok (.invokevirtual 129, 3) := by decide +kernel
theorem dX1_countFair_19 : decode cX1_countFair 19 = .ok (.istore_n 3, 1) := by decide +kernel
theorem dX1_countFair_20 : decode cX1_countFair 20 = .ok (.iconst 0, 1) := by decide +kernel
theorem dX1_countFair_21 : decode cX1_countFair 21 = .ok (.istore 4, 2) := by decide +kernel
theorem dX1_countFair_23 : decode cX1_countFair 23 = .ok (.iload 4, 2) := by decide +kernel
theorem dX1_countFair_25 : decode cX1_countFair 25 = .ok (.aload_n 0, 1) := by decide +kernel
theorem dX1_countFair_26 : decode cX1_countFair 26 = .ok (.getfield 49, 3) := by decide +kernel
theorem dX1_countFair_29 : decode cX1_countFair 29 = .ok (.getfield 110, 3) := by decide +kernel
theorem dX1_countFair_32 : decode cX1_countFair 32 = .ok (.if_icmp .ge 50, 3) := by decide +kernel
theorem dX1_countFair_35 : decode cX1_countFair 35 = .ok (.iload_n 3, 1) := by decide +kernel
theorem dX1_countFair_36 : decode cX1_countFair 36 = .ok (.ifCond .eq 46, 3) := by decide +kernel
theorem dX1_countFair_39 : decode cX1_countFair 39 = .ok (.aload_n 0, 1) := by decide +kernel
theorem dX1_countFair_40 : decode cX1_countFair 40 = .ok (.iload 4, 2) := by decide +kernel
theorem dX1_countFair_42 : decode cX1_countFair 42 = .ok (.iconst 0, 1) := by decide +kernel
theorem dX1_countFair_43 : decode cX1_countFair 43 = .ok (.invokevirtual 156, 3) := by decide +kernel
theorem dX1_countFair_46 : decode cX1_countFair 46 = .ok (.aload_n 0, 1) := by decide +kernel
theorem dX1_countFair_47 : decode cX1_countFair 47 = .ok (.iload_n 2, 1) := by decide +kernel
theorem dX1_countFair_48 : decode cX1_countFair 48 = .ok (.invokevirtual 160, 3) := by decide +kernel
theorem dX1_countFair_51 : decode cX1_countFair 51 = .ok (.istore 5, 2) := by decide +kernel
theorem dX1_countFair_53 : decode cX1_countFair 53 = .ok (.aload_n 0, 1) := by decide +kernel
theorem dX1_countFair_54 : decode cX1_countFair 54 = .ok (.iload 4, 2) := by decide +kernel
theorem dX1_countFair_56 : decode cX1_countFair 56 = .ok (.iconst 1, 1) := by decide +kernel
theorem dX1_countFair_57 : decode cX1_countFair 57 = .ok (.invokevirtual 156, 3) := by decide +kernel
theorem dX1_countFair_60 : decode cX1_countFair 60 = .ok (.aload_n 0, 1) := by decide +kernel
theorem dX1_countFair_61 : decode cX1_countFair 61 = .ok (.iload_n 2, 1) := by decide +kernel
theorem dX1_countFair_62 : decode cX1_countFair 62 = .ok (.invokevirtual 160, 3) := by decide +kernel
theorem dX1_countFair_65 : decode cX1_countFair 65 = .ok (.iload 5, 2) := by decide +kernel
theorem dX1_countFair_67 : decode cX1_countFair 67 = .ok (.if_icmp .ne 7, 3) := by decide +kernel
theorem dX1_countFair_70 : decode cX1_countFair 70 = .ok (.iconst 1, 1) := by decide +kernel
theorem dX1_countFair_71 : decode cX1_countFair 71 = .ok (.goto 4, 3) := by decide +kernel
theorem dX1_countFair_74 : decode cX1_countFair 74 = .ok (.iconst 0, 1) := by decide +kernel
theorem dX1_countFair_75 : decode cX1_countFair 75 = .ok (.istore_n 3, 1) := by decide +kernel
theorem dX1_countFair_76 : decode cX1_countFair 76 = .ok (.iinc 4 1, 3) := by decide +kernel
theorem dX1_countFair_79 : decode cX1_countFair 79 = .ok (.goto (-56), 3) := by decide +kernel
theorem dX1_countFair_82 : decode cX1_countFair 82 = .ok (.iload_n 3, 1) := by decide +kernel
theorem dX1_countFair_83 : decode cX1_countFair 83 = .ok (.ifCond .eq 6, 3) := by decide +kernel
theorem dX1_countFair_86 : decode cX1_countFair 86 = .ok (.iinc 1 1, 3) := by decide +kernel
theorem dX1_countFair_89 : decode cX1_countFair 89 = .ok (.iinc 2 1, 3) := by decide +kernel
theorem dX1_countFair_92 : decode cX1_countFair 92 = .ok (.goto (-88), 3) := by decide +kernel
theorem dX1_countFair_95 : decode cX1_countFair 95 = .ok (.iload_n 1, 1) := by decide +kernel
theorem dX1_countFair_96 : decode cX1_countFair 96 = .ok (.ireturn, 1) := by decide +kernel
theorem dX1_lookForEndings_0 : decode cX1_lookForEndings 0 = .ok (.aload_n 0, 1) := by decide +kernel
theorem dX1_lookForEndings_1 : decode cX1_lookForEndings 1 = .ok (.iconst 0, 1) := by decide +kernel
theorem dX1_lookForEndings_2 : decode cX1_lookForEndings 2 = .ok (.putfield 163, 3) := by decide +kernel
theorem dX1_lookForEndings_5 : decode cX1_lookForEndings 5 = .ok (.iconst 0, 1) := by decide +kernel
theorem dX1_lookForEndings_6 : decode cX1_lookForEndings 6 = .ok (.istore_n 1, 1) := by decide +kernel
theorem dX1_lookForEndings_7 : decode cX1_lookForEndings 7 = .ok (.iload_n 1, 1) := by decide +kernel
theorem dX1_lookForEndings_8 : decode cX1_lookForEndings 8 = .ok (.sipush 600, 3) := by decide +kernel
theorem dX1_lookForEndings_11 : decode cX1_lookForEndings 11 = .ok (.if_icmp .ge 105, 3) := by decide +kernel
theorem dX1_lookForEndings_14 : decode cX1_lookForEndings 14 = .ok (.iconst 0, 1) := by decide +kernel
theorem dX1_lookForEndings_15 : decode cX1_lookForEndings 15 = .ok (.istore_n 2, 1) := by decide +kernel
theorem dX1_lookForEndings_16 : decode cX1_lookForEndings 16 = .ok (.iconst 0, 1) := by decide +kernel
theorem dX1_lookForEndings_17 : decode cX1_lookForEndings 17 = .ok (.istore_n 3, 1) := by decide +kernel
theorem dX1_lookForEndings_18 : decode cX1_lookForEndings 18 = .ok (.iload_n 3, 1) := by decide +kernel
theorem dX1_lookForEndings_19 : decode cX1_lookForEndings 19 = .ok (.aload_n 0, 1) := by decide +kernel
theorem dX1_lookForEndings_20 : decode cX1_lookForEndings 20 = .ok (.getfield 49, 3) := by decide +kernel
theorem dX1_lookForEndings_23 : decode cX1_lookForEndings 23 = .ok (.getfield 110, 3) := by decide +kernel
theorem dX1_lookForEndings_26 : decode cX1_lookForEndings 26 = .ok (.if_icmp .ge 40, 3) := by decide +kernel
theorem dX1_lookForEndings_29 : decode cX1_lookForEndings 29 = .ok (.aload_n 0, 1) := by decide +kernel
theorem dX1_lookForEndings_30 : decode cX1_lookForEndings 30 = .ok (.getfield 49, 3) := by decide +kernel
theorem dX1_lookForEndings_33 : decode cX1_lookForEndings 33 = .ok (.iload_n 1, 1) := by decide +kernel
theorem dX1_lookForEndings_34 : decode cX1_lookForEndings 34 = .ok (.invokevirtual 129, 3) := by decide +kernel
theorem dX1_lookForEndings_37 : decode cX1_lookForEndings 37 = .ok (.ifCond .eq 29, 3) := by decide +kernel
theorem dX1_lookForEndings_40 : decode cX1_lookForEndings 40 = .ok (.aload_n 0, 1) := by decide +kernel
theorem dX1_lookForEndings_41 : decode cX1_lookForEndings 41 = .ok (.iload_n 3, 1) := by decide +kernel
theorem dX1_lookForEndings_42 : decode cX1_lookForEndings 42 = .ok (.iconst 0, 1) := by decide +kernel
theorem dX1_lookForEndings_43 : decode cX1_lookForEndings 43 = .ok (.invokevirtual 156, 3) := by decide +kernel
theorem dX1_lookForEndings_46 : decode cX1_lookForEndings 46 = .ok (.aload_n 0, 1) := by decide +kernel
theorem dX1_lookForEndings_47 : decode cX1_lookForEndings 47 = .ok (.iload_n 1, 1) := by decide +kernel
theorem dX1_lookForEndings_48 : decode cX1_lookForEndings 48 = .ok (.invokevirtual 132, 3) := by decide +kernel
theorem dX1_lookForEndings_51 : decode cX1_lookForEndings 51 = .ok (.ifCond .eq 9, 3) := by decide +kernel
theorem dX1_lookForEndings_54 : decode cX1_lookForEndings 54 = .ok (.iload_n 2, 1) := by decide +kernel
theorem dX1_lookForEndings_55 : decode cX1_lookForEndings 55 = .ok (.iconst 1, 1) := by decide +kernel
theorem dX1_lookForEndings_56 : decode cX1_lookForEndings 56 = .ok (.iload_n 3, 1) := by decide +kernel
theorem dX1_lookForEndings_57 : decode cX1_lookForEndings 57 = .ok (.ishl, 1) := by decide +kernel
theorem dX1_lookForEndings_58 : decode cX1_lookForEndings 58 = .ok (.ior, 1) := by decide +kernel
theorem dX1_lookForEndings_59 : decode cX1_lookForEndings 59 = .ok (.istore_n 2, 1) := by decide +kernel
theorem dX1_lookForEndings_60 : decode cX1_lookForEndings 60 = .ok (.iinc 3 1, 3) := by decide +kernel
theorem dX1_lookForEndings_63 : decode cX1_lookForEndings 63 = .ok (.goto (-45), 3) := by decide +kernel
theorem dX1_lookForEndings_66 : decode cX1_lookForEndings 66 = .ok (.iload_n 2, 1) := by decide +kernel
theorem dX1_lookForEndings_67 : decode cX1_lookForEndings 67 = .ok (.ifCond .eq 43, 3) := by decide +kernel
theorem dX1_lookForEndings_70 : decode cX1_lookForEndings 70 = .ok (.aload_n 0, 1) := by decide +kernel
theorem dX1_lookForEndings_71 : decode cX1_lookForEndings 71 = .ok (.getfield 163, 3) := by decide +kernel
theorem dX1_lookForEndings_74 : decode cX1_lookForEndings 74 = .ok (.sipush 180, 3) := by decide +kernel
theorem dX1_lookForEndings_77 : decode cX1_lookForEndings 77 = .ok (.if_icmp .ge 33, 3) := by decide +kernel
theorem dX1_lookForEndings_80 : decode cX1_lookForEndings 80 = .ok (.aload_n 0, 1) := by decide +kernel
theorem dX1_lookForEndings_81 : decode cX1_lookForEndings 81 = .ok (.getfield 25, 3) := by decide +kernel
theorem dX1_lookForEndings_84 : decode cX1_lookForEndings 84 = .ok (.aload_n 0, 1) := by decide +kernel
theorem dX1_lookForEndings_85 : decode cX1_lookForEndings 85 = .ok (.getfield 163, 3) := by decide +kernel
theorem dX1_lookForEndings_88 : decode cX1_lookForEndings 88 = .ok (.iload_n 1, 1) := by decide +kernel
theorem dX1_lookForEndings_89 : decode cX1_lookForEndings 89 = .ok (.iastore, 1) := by decide +kernel
theorem dX1_lookForEndings_90 : decode cX1_lookForEndings 90 = .ok (.aload_n 0, 1) := by decide +kernel
theorem dX1_lookForEndings_91 : decode cX1_lookForEndings 91 = .ok (.getfield 28, 3) := by decide +kernel
theorem dX1_lookForEndings_94 : decode cX1_lookForEndings 94 = .ok (.aload_n 0, 1) := by decide +kernel
theorem dX1_lookForEndings_95 : decode cX1_lookForEndings 95 = .ok (.getfield 163, 3) := by decide +kernel
theorem dX1_lookForEndings_98 : decode cX1_lookForEndings 98 = .ok (.iload_n 2, 1) := by decide +kernel
theorem dX1_lookForEndings_99 : decode cX1_lookForEndings 99 = .ok (.iastore, 1) := by decide +kernel
theorem dX1_lookForEndings_100 : decode cX1_lookForEndings 100 = .ok (.aload_n 0, 1) := by decide +kernel
theorem dX1_lookForEndings_101 : decode cX1_lookForEndings 101 = .ok (.dup, 1) := by decide +kernel
theorem dX1_lookForEndings_102 : decode cX1_lookForEndings 102 = .ok (.getfield 163, 3) := by decide +kernel
theorem dX1_lookForEndings_105 : decode cX1_lookForEndings 105 = .ok (.iconst 1, 1) := by decide +kernel
theorem dX1_lookForEndings_106 : decode cX1_lookForEndings 106 = .ok (.iadd, 1) := by decide +kernel
theorem dX1_lookForEndings_107 : decode cX1_lookForEndings 107 = .ok (.putfield 163, 3) := by decide +kernel
theorem dX1_lookForEndings_110 : decode cX1_lookForEndings 110 = .ok (.iinc 1 1, 3) := by decide +kernel
theorem dX1_lookForEndings_113 : decode cX1_lookForEndings 113 = .ok (.goto (-106), 3) := by decide +kernel
theorem dX1_lookForEndings_116 : decode cX1_lookForEndings 116 = .ok (.return_, 1) := by decide +kernel
theorem dX1_layCover_0 : decode cX1_layCover 0 = .ok (.aload_n 0, 1) := by decide +kernel
theorem dX1_layCover_1 : decode cX1_layCover 1 = .ok (.invokevirtual 69, 3) := by decide +kernel
theorem dX1_layCover_4 : decode cX1_layCover 4 = .ok (.aload_n 0, 1) := by decide +kernel
theorem dX1_layCover_5 : decode cX1_layCover 5 = .ok (.getfield 49, 3) := by decide +kernel
theorem dX1_layCover_8 : decode cX1_layCover 8 = .ok (.getfield 110, 3) := by decide +kernel
theorem dX1_layCover_11 : decode cX1_layCover 11 = .ok (.ifCond .gt 5, 3) := by decide +kernel
theorem dX1_layCover_14 : decode cX1_layCover 14 = .ok (.iconst 0, 1) := by decide +kernel
theorem dX1_layCover_15 : decode cX1_layCover 15 = .ok (.ireturn, 1) := by decide +kernel
theorem dX1_layCover_16 : decode cX1_layCover 16 = .ok (.aload_n 0, 1) := by decide +kernel
theorem dX1_layCover_17 : decode cX1_layCover 17 = .ok (.invokevirtual 166, 3) := by decide +kernel
theorem dX1_layCover_20 : decode cX1_layCover 20 = .ok (.ifCond .ne 17, 3) := by decide +kernel
theorem dX1_layCover_23 : decode cX1_layCover 23 = .ok (.aload_n 0, 1) := by decide +kernel
theorem dX1_layCover_24 : decode cX1_layCover 24 = .ok (.invokevirtual 170, 3) := by decide +kernel
theorem dX1_layCover_27 : decode cX1_layCover 27 = .ok (.ifCond .ne 10, 3) := by decide +kernel
theorem dX1_layCover_30 : decode cX1_layCover 30 = .ok (.aload_n 0, 1) := by decide +kernel
theorem dX1_layCover_31 : decode cX1_layCover 31 = .ok (.invokevirtual 173, 3) := by decide +kernel
theorem dX1_layCover_34 : decode cX1_layCover 34 = .ok (.ifCond .eq 8, 3) := by decide +kernel
theorem dX1_layCover_37 : decode cX1_layCover 37 = .ok (.aload_n 0, 1) := by decide +kernel
theorem dX1_layCover_38 : decode cX1_layCover 38 = .ok (.getfield 65, 3) := by decide +kernel
theorem dX1_layCover_41 : decode cX1_layCover 41 = .ok (.ireturn, 1) := by decide +kernel
theorem dX1_layCover_42 : decode cX1_layCover 42 = .ok (.iconst (-1), 1) := by decide +kernel
theorem dX1_layCover_43 : decode cX1_layCover 43 = .ok (.ireturn, 1) := by decide +kernel
theorem dX1_coverByOne_0 : decode cX1_coverByOne 0 = .ok (.aload_n 0, 1) := by decide +kernel
theorem dX1_coverByOne_1 : decode cX1_coverByOne 1 = .ok (.iconst 0, 1) := by decide +kernel
theorem dX1_coverByOne_2 : decode cX1_coverByOne 2 = .ok (.iconst 0, 1) := by decide +kernel
theorem dX1_coverByOne_3 : decode cX1_coverByOne 3 = .ok (.invokevirtual 176, 3) := by decide +kernel
theorem dX1_coverByOne_6 : decode cX1_coverByOne 6 = .ok (.istore_n 1, 1) := by decide +kernel
theorem dX1_coverByOne_7 : decode cX1_coverByOne 7 = .ok (.iload_n 1, 1) := by decide +kernel
theorem dX1_coverByOne_8 : decode cX1_coverByOne 8 = .ok (.iconst (-1), 1) := by decide +kernel
theorem dX1_coverByOne_9 : decode cX1_coverByOne 9 = .ok (.if_icmp .ne 5, 3) := by decide +kernel
theorem dX1_coverByOne_12 : decode cX1_coverByOne 12 = .ok (.iconst 0, 1) := by decide +kernel
theorem dX1_coverByOne_13 : decode cX1_coverByOne 13 = .ok (.ireturn, 1) := by decide +kernel
theorem dX1_coverByOne_14 : decode cX1_coverByOne 14 = .ok (.aload_n 0, 1) := by decide +kernel
theorem dX1_coverByOne_15 : decode cX1_coverByOne 15 = .ok (.aload_n 0, 1) := by decide +kernel
theorem dX1_coverByOne_16 : decode cX1_coverByOne 16 = .ok (.getfield 25, 3) := by decide +kernel
theorem dX1_coverByOne_19 : decode cX1_coverByOne 19 = .ok (.iload_n 1, 1) := by decide +kernel
theorem dX1_coverByOne_20 : decode cX1_coverByOne 20 = .ok (.iaload, 1) := by decide +kernel
theorem dX1_coverByOne_21 : decode cX1_coverByOne 21 = .ok (.invokevirtual 82, 3) := by decide +kernel
theorem dX1_coverByOne_24 : decode cX1_coverByOne 24 = .ok (.iconst 1, 1) := by decide +kernel
theorem dX1_coverByOne_25 : decode cX1_coverByOne 25 = .ok (.ireturn, 1) := by decide +kernel
theorem dX1_coverByTwo_0 : decode cX1_coverByTwo 0 = .ok (.iconst 0, 1) := by decide +kernel
theorem dX1_coverByTwo_1 : decode cX1_coverByTwo 1 = .ok (.istore_n 1, 1) := by decide +kernel
theorem dX1_coverByTwo_2 : decode cX1_coverByTwo 2 = .ok (.iload_n 1, 1) := by decide +kernel
theorem dX1_coverByTwo_3 : decode cX1_coverByTwo 3 = .ok (.aload_n 0, 1) := by decide +kernel
theorem dX1_coverByTwo_4 : decode cX1_coverByTwo 4 = .ok (.getfield 163, 3) := by decide +kernel
theorem dX1_coverByTwo_7 : decode cX1_coverByTwo 7 = .ok (.if_icmp .ge 57, 3) := by decide +kernel
theorem dX1_coverByTwo_10 : decode cX1_coverByTwo 10 = .ok (.iload_n 1, 1) := by decide +kernel
theorem dX1_coverByTwo_11 : decode cX1_coverByTwo 11 = .ok (.sipush 180, 3) := by decide +kernel
theorem dX1_coverByTwo_14 : decode cX1_coverByTwo 14 = .ok (.if_icmp .ge 50, 3) := by decide +kernel
theorem dX1_coverByTwo_17 : decode cX1_coverByTwo 17 = .ok (.aload_n 0, 1) := by decide +kernel
theorem dX1_coverByTwo_18 : decode cX1_coverByTwo 18 = .ok (.iload_n 1, 1) := by decide +kernel
theorem dX1_coverByTwo_19 : decode cX1_coverByTwo 19 = .ok (.iconst 1, 1) := by decide +kernel
theorem dX1_coverByTwo_20 : decode cX1_coverByTwo 20 = .ok (.iadd, 1) := by decide +kernel
theorem dX1_coverByTwo_21 : decode cX1_coverByTwo 21 = .ok (.aload_n 0, 1) := by decide +kernel
theorem dX1_coverByTwo_22 : decode cX1_coverByTwo 22 = .ok (.getfield 28, 3) := by decide +kernel
theorem dX1_coverByTwo_25 : decode cX1_coverByTwo 25 = .ok (.iload_n 1, 1) := by decide +kernel
theorem dX1_coverByTwo_26 : decode cX1_coverByTwo 26 = .ok (.iaload, 1) := by decide +kernel
theorem dX1_coverByTwo_27 : decode cX1_coverByTwo 27 = .ok (.invokevirtual 176, 3) := by decide +kernel
theorem dX1_coverByTwo_30 : decode cX1_coverByTwo 30 = .ok (.istore_n 2, 1) := by decide +kernel
theorem dX1_coverByTwo_31 : decode cX1_coverByTwo 31 = .ok (.iload_n 2, 1) := by decide +kernel
theorem dX1_coverByTwo_32 : decode cX1_coverByTwo 32 = .ok (.iconst (-1), 1) := by decide +kernel
theorem dX1_coverByTwo_33 : decode cX1_coverByTwo 33 = .ok (.if_icmp .eq 25, 3) := by decide +kernel
theorem dX1_coverByTwo_36 : decode cX1_coverByTwo 36 = .ok (.aload_n 0, 1) := by decide +kernel
theorem dX1_coverByTwo_37 : decode cX1_coverByTwo 37 = .ok (.aload_n 0, 1) := by decide +kernel
theorem dX1_coverByTwo_38 : decode cX1_coverByTwo 38 = .ok (.getfield 25, 3) := by decide +kernel
theorem dX1_coverByTwo_41 : decode cX1_coverByTwo 41 = .ok (.iload_n 1, 1) := by decide +kernel
theorem dX1_coverByTwo_42 : decode cX1_coverByTwo 42 = .ok (.iaload, 1) := by decide +kernel
theorem dX1_coverByTwo_43 : decode cX1_coverByTwo 43 = .ok (.invokevirtual 82, 3) := by decide +kernel
theorem dX1_coverByTwo_46 : decode cX1_coverByTwo 46 = .ok (.aload_n 0, 1) := by decide +kernel
theorem dX1_coverByTwo_47 : decode cX1_coverByTwo 47 = .ok (.aload_n 0, 1) := by decide +kernel
theorem dX1_coverByTwo_48 : decode cX1_coverByTwo 48 = .ok (.getfield 25, 3) := by decide +kernel
theorem dX1_coverByTwo_51 : decode cX1_coverByTwo 51 = .ok (.iload_n 2, 1) := by decide +kernel
theorem dX1_coverByTwo_52 : decode cX1_coverByTwo 52 = .ok (.iaload, 1) := by decide +kernel
theorem dX1_coverByTwo_53 : decode cX1_coverByTwo 53 = .ok (.invokevirtual 82, 3) := by decide +kernel
theorem dX1_coverByTwo_56 : decode cX1_coverByTwo 56 = .ok (.iconst 1, 1) := by decide +kernel
theorem dX1_coverByTwo_57 : decode cX1_coverByTwo 57 = .ok (.ireturn, 1) := by decide +kernel
theorem dX1_coverByTwo_58 : decode cX1_coverByTwo 58 = .ok (.iinc 1 1, 3) := by decide +kernel
theorem dX1_coverByTwo_61 : decode cX1_coverByTwo 61 = .ok (.goto (-59), 3) := by decide +kernel
theorem dX1_coverByTwo_64 : decode cX1_coverByTwo 64 = .ok (.iconst 0, 1) := by decide +kernel
theorem dX1_coverByTwo_65 : decode cX1_coverByTwo 65 = .ok (.ireturn, 1) := by decide +kernel
theorem dX1_coverByThree_0 : decode cX1_coverByThree 0 = .ok (.iconst 0, 1) := by decide +kernel
theorem dX1_coverByThree_1 : decode cX1_coverByThree 1 = .ok (.istore_n 1, 1) := by decide +kernel
theorem dX1_coverByThree_2 : decode cX1_coverByThree 2 = .ok (.iload_n 1, 1) := by decide +kernel
theorem dX1_coverByThree_3 : decode cX1_coverByThree 3 = .ok (.aload_n 0, 1) := by decide +kernel
theorem dX1_coverByThree_4 : decode cX1_coverByThree 4 = .ok (.getfield 163, 3) := by decide +kernel
theorem dX1_coverByThree_7 : decode cX1_coverByThree 7 = .ok (.if_icmp .ge 99, 3) := by decide +kernel
theorem dX1_coverByThree_10 : decode cX1_coverByThree 10 = .ok (.iload_n 1, 1) := by decide +kernel
theorem dX1_coverByThree_11 : decode cX1_coverByThree 11 = .ok (.sipush 180, 3) := by decide +kernel
theorem dX1_coverByThree_14 : decode cX1_coverByThree 14 = .ok (.if_icmp .ge 92, 3) := by decide +kernel
theorem dX1_coverByThree_17 : decode cX1_coverByThree 17 = .ok (.iload_n 1, 1) := by decide +kernel
theorem dX1_coverByThree_18 : decode cX1_coverByThree 18 = .ok (.iconst 1, 1) := by decide +kernel
theorem dX1_coverByThree_19 : decode cX1_coverByThree 19 = .ok (.iadd, 1) := by decide +kernel
theorem dX1_coverByThree_20 : decode cX1_coverByThree 20 = .ok (.istore_n 2, 1) := by decide +kernel
theorem dX1_coverByThree_21 : decode cX1_coverByThree 21 = .ok (.iload_n 2, 1) := by decide +kernel
theorem dX1_coverByThree_22 : decode cX1_coverByThree 22 = .ok (.aload_n 0, 1) := by decide +kernel
theorem dX1_coverByThree_23 : decode cX1_coverByThree 23 = .ok (.getfield 163, 3) := by decide +kernel
theorem dX1_coverByThree_26 : decode cX1_coverByThree 26 = .ok (.if_icmp .ge 74, 3) := by decide +kernel
theorem dX1_coverByThree_29 : decode cX1_coverByThree 29 = .ok (.iload_n 2, 1) := by decide +kernel
theorem dX1_coverByThree_30 : decode cX1_coverByThree 30 = .ok (.sipush 180, 3) := by decide +kernel
theorem dX1_coverByThree_33 : decode cX1_coverByThree 33 = .ok (.if_icmp .ge 67, 3) := by decide +kernel
theorem dX1_coverByThree_36 : decode cX1_coverByThree 36 = .ok (.aload_n 0, 1) := by decide +kernel
theorem dX1_coverByThree_37 : decode cX1_coverByThree 37 = .ok (.iload_n 2, 1) := by decide +kernel
theorem dX1_coverByThree_38 : decode cX1_coverByThree 38 = .ok (.iconst 1, 1) := by decide +kernel
theorem dX1_coverByThree_39 : decode cX1_coverByThree 39 = .ok (.iadd, 1) := by decide +kernel
theorem dX1_coverByThree_40 : decode cX1_coverByThree 40 = .ok (.aload_n 0, 1) := by decide +kernel
theorem dX1_coverByThree_41 : decode cX1_coverByThree 41 = .ok (.getfield 28, 3) := by decide +kernel
theorem dX1_coverByThree_44 : decode cX1_coverByThree 44 = .ok (.iload_n 1, 1) := by decide +kernel
theorem dX1_coverByThree_45 : decode cX1_coverByThree 45 = .ok (.iaload, 1) := by decide +kernel
theorem dX1_coverByThree_46 : decode cX1_coverByThree 46 = .ok (.aload_n 0, 1) := by decide +kernel
theorem dX1_coverByThree_47 : decode cX1_coverByThree 47 = .ok (.getfield 28, 3) := by decide +kernel
theorem dX1_coverByThree_50 : decode cX1_coverByThree 50 = .ok (.iload_n 2, 1) := by decide +kernel
theorem dX1_coverByThree_51 : decode cX1_coverByThree 51 = .ok (.iaload, 1) := by decide +kernel
theorem dX1_coverByThree_52 : decode cX1_coverByThree 52 = .ok (.ior, 1) := by decide +kernel
theorem dX1_coverByThree_53 : decode cX1_coverByThree 53 = .ok (.invokevirtual 176, 3) := by decide +kernel
theorem dX1_coverByThree_56 : decode cX1_coverByThree 56 = .ok (.istore_n 3, 1) := by decide +kernel
theorem dX1_coverByThree_57 : decode cX1_coverByThree 57 = .ok (.iload_n 3, 1) := by decide +kernel
theorem dX1_coverByThree_58 : decode cX1_coverByThree 58 = .ok (.iconst (-1), 1) := by decide +kernel
theorem dX1_coverByThree_59 : decode cX1_coverByThree 59 = .ok (.if_icmp .eq 35, 3) := by decide +kernel
theorem dX1_coverByThree_62 : decode cX1_coverByThree 62 = .ok (.aload_n 0, 1) := by decide +kernel
theorem dX1_coverByThree_63 : decode cX1_coverByThree 63 = .ok (.aload_n 0, 1) := by decide +kernel
theorem dX1_coverByThree_64 : decode cX1_coverByThree 64 = .ok (.getfield 25, 3) := by decide +kernel
theorem dX1_coverByThree_67 : decode cX1_coverByThree 67 = .ok (.iload_n 1, 1) := by decide +kernel
theorem dX1_coverByThree_68 : decode cX1_coverByThree 68 = .ok (.iaload, 1) := by decide +kernel
theorem dX1_coverByThree_69 : decode cX1_coverByThree 69 = .ok (.invokevirtual 82, 3) := by decide +kernel
theorem dX1_coverByThree_72 : decode cX1_coverByThree 72 = .ok (.aload_n 0, 1) := by decide +kernel
theorem dX1_coverByThree_73 : decode cX1_coverByThree 73 = .ok (.aload_n 0, 1) := by decide +kernel
theorem dX1_coverByThree_74 : decode cX1_coverByThree 74 = .ok (.getfield 25, 3) := by decide +kernel
theorem dX1_coverByThree_77 : decode cX1_coverByThree 77 = .ok (.iload_n 2, 1) := by decide +kernel
theorem dX1_coverByThree_78 : decode cX1_coverByThree 78 = .ok (.iaload, 1) := by decide +kernel
theorem dX1_coverByThree_79 : decode cX1_coverByThree 79 = .ok (.invokevirtual 82, 3) := by decide +kernel
theorem dX1_coverByThree_82 : decode cX1_coverByThree 82 = .ok (.aload_n 0, 1) := by decide +kernel
theorem dX1_coverByThree_83 : decode cX1_coverByThree 83 = .ok (.aload_n 0, 1) := by decide +kernel
theorem dX1_coverByThree_84 : decode cX1_coverByThree 84 = .ok (.getfield 25, 3) := by decide +kernel
theorem dX1_coverByThree_87 : decode cX1_coverByThree 87 = .ok (.iload_n 3, 1) := by decide +kernel
theorem dX1_coverByThree_88 : decode cX1_coverByThree 88 = .ok (.iaload, 1) := by decide +kernel
theorem dX1_coverByThree_89 : decode cX1_coverByThree 89 = .ok (.invokevirtual 82, 3) := by decide +kernel
theorem dX1_coverByThree_92 : decode cX1_coverByThree 92 = .ok (.iconst 1, 1) := by decide +kernel
theorem dX1_coverByThree_93 : decode cX1_coverByThree 93 = .ok (.ireturn, 1) := by decide +kernel
theorem dX1_coverByThree_94 : decode cX1_coverByThree 94 = .ok (.iinc 2 1, 3) := by decide +kernel
theorem dX1_coverByThree_97 : decode cX1_coverByThree 97 = .ok (.goto (-76), 3) := by decide +kernel
theorem dX1_coverByThree_100 : decode cX1_coverByThree 100 = .ok (.iinc 1 1, 3) := by decide +kernel
theorem dX1_coverByThree_103 : decode cX1_coverByThree 103 = .ok (.goto (-101), 3) := by decide +kernel
theorem dX1_coverByThree_106 : decode cX1_coverByThree 106 = .ok (.iconst 0, 1) := by decide +kernel
theorem dX1_coverByThree_107 : decode cX1_coverByThree 107 = .ok (.ireturn, 1) := by decide +kernel
theorem dX1_firstCovering_0 : decode cX1_firstCovering 0 = .ok (.iconst 1, 1) := by decide +kernel
theorem dX1_firstCovering_1 : decode cX1_firstCovering 1 = .ok (.aload_n 0, 1) := by decide +kernel
theorem dX1_firstCovering_2 : decode cX1_firstCovering 2 = .ok (.getfield 49, 3) := by decide +kernel
theorem dX1_firstCovering_5 : decode cX1_firstCovering 5 = .ok (.getfield 110, 3) := by decide +kernel
theorem dX1_firstCovering_8 : decode cX1_firstCovering 8 = .ok (.ishl, 1) := by decide +kernel
theorem dX1_firstCovering_9 : decode cX1_firstCovering 9 = .ok (.iconst 1, 1) := by decide +kernel
theorem dX1_firstCovering_10 : decode cX1_firstCovering 10 = .ok (.isub, 1) := by decide +kernel
theorem dX1_firstCovering_11 : decode cX1_firstCovering 11 = .ok (.istore_n 3, 1) := by decide +kernel
theorem dX1_firstCovering_12 : decode cX1_firstCovering 12 = .ok (.iconst 0, 1) := by decide +kernel
theorem dX1_firstCovering_13 : decode cX1_firstCovering 13 = .ok (.iload_n 1, 1) := by decide +kernel
theorem dX1_firstCovering_14 : decode cX1_firstCovering 14 = .ok (.invokestatic 179, 3) := by decide +kernel
theorem dX1_firstCovering_17 : decode cX1_firstCovering 17 = .ok (.istore 4, 2) := by decide +kernel
theorem dX1_firstCovering_19 : decode cX1_firstCovering 19 = .ok (.iload 4, 2) := by decide +kernel
theorem dX1_firstCovering_21 : decode cX1_firstCovering 21 = .ok (.aload_n 0, 1) := by decide +kernel
theorem dX1_firstCovering_22 : decode cX1_firstCovering 22 = .ok (.getfield 163, 3) := by decide +kernel
theorem dX1_firstCovering_25 : decode cX1_firstCovering 25 = .ok (.if_icmp .ge 33, 3) := by decide +kernel
theorem dX1_firstCovering_28 : decode cX1_firstCovering 28 = .ok (.iload 4, 2) := by decide +kernel
theorem dX1_firstCovering_30 : decode cX1_firstCovering 30 = .ok (.sipush 180, 3) := by decide +kernel
theorem dX1_firstCovering_33 : decode cX1_firstCovering 33 = .ok (.if_icmp .ge 25, 3) := by decide +kernel
theorem dX1_firstCovering_36 : decode cX1_firstCovering 36 = .ok (.iload_n 2, 1) := by decide +kernel
theorem dX1_firstCovering_37 : decode cX1_firstCovering 37 = .ok (.aload_n 0, 1) := by decide +kernel
theorem dX1_firstCovering_38 : decode cX1_firstCovering 38 = .ok (.getfield 28, 3) := by decide +kernel
theorem dX1_firstCovering_41 : decode cX1_firstCovering 41 = .ok (.iload 4, 2) := by decide +kernel
theorem dX1_firstCovering_43 : decode cX1_firstCovering 43 = .ok (.iaload, 1) := by decide +kernel
theorem dX1_firstCovering_44 : decode cX1_firstCovering 44 = .ok (.ior, 1) := by decide +kernel
theorem dX1_firstCovering_45 : decode cX1_firstCovering 45 = .ok (.iload_n 3, 1) := by decide +kernel
theorem dX1_firstCovering_46 : decode cX1_firstCovering 46 = .ok (.if_icmp .ne 6, 3) := by decide +kernel
theorem dX1_firstCovering_49 : decode cX1_firstCovering 49 = .ok (.iload 4, 2) := by decide +kernel
theorem dX1_firstCovering_51 : decode cX1_firstCovering 51 = .ok (.ireturn, 1) := by decide +kernel
theorem dX1_firstCovering_52 : decode cX1_firstCovering 52 = .ok (.iinc 4 1, 3) := by decide +kernel
theorem dX1_firstCovering_55 : decode cX1_firstCovering 55 = .ok (.goto (-36), 3) := by decide +kernel
theorem dX1_firstCovering_58 : decode cX1_firstCovering 58 = .ok (.iconst (-1), 1) := by decide +kernel
theorem dX1_firstCovering_59 : decode cX1_firstCovering 59 = .ok (.ireturn, 1) := by decide +kernel
theorem dX1_countTurned_0 : decode cX1_countTurned 0 = .ok (.iconst 0, 1) := by decide +kernel
theorem dX1_countTurned_1 : decode cX1_countTurned 1 = .ok (.istore_n 1, 1) := by decide +kernel
theorem dX1_countTurned_2 : decode cX1_countTurned 2 = .ok (.iconst 0, 1) := by decide +kernel
theorem dX1_countTurned_3 : decode cX1_countTurned 3 = .ok (.istore_n 2, 1) := by decide +kernel
theorem dX1_countTurned_4 : decode cX1_countTurned 4 = .ok (.iload_n 2, 1) := by decide +kernel
theorem dX1_countTurned_5 : decode cX1_countTurned 5 = .ok (.sipush 600, 3) := by decide +kernel
theorem dX1_countTurned_8 : decode cX1_countTurned 8 = .ok (.if_icmp .ge 73, 3) := by decide +kernel
theorem dX1_countTurned_11 : decode cX1_countTurned 11 = .ok (.iload_n 2, 1) := by decide +kernel
theorem dX1_countTurned_12 : decode cX1_countTurned 12 = .ok (.bipush 100, 2) := by decide +kernel
theorem dX1_countTurned_14 : decode cX1_countTurned 14 = .ok (.idiv, 1) := by decide +kernel
theorem dX1_countTurned_15 : decode cX1_countTurned 15 = .ok (.istore_n 3, 1) := by decide +kernel
theorem dX1_countTurned_16 : decode cX1_countTurned 16 = .ok (.iload_n 2, 1) := by decide +kernel
theorem dX1_countTurned_17 : decode cX1_countTurned 17 = .ok (.bipush 10, 2) := by decide +kernel
theorem dX1_countTurned_19 : decode cX1_countTurned 19 = .ok (.idiv, 1) := by decide +kernel
theorem dX1_countTurned_20 : decode cX1_countTurned 20 = .ok (.bipush 10, 2) := by decide +kernel
theorem dX1_countTurned_22 : decode cX1_countTurned 22 = .ok (.irem, 1) := by decide +kernel
theorem dX1_countTurned_23 : decode cX1_countTurned 23 = .ok (.istore 4, 2) := by decide +kernel
theorem dX1_countTurned_25 : decode cX1_countTurned 25 = .ok (.iload_n 2, 1) := by decide +kernel
theorem dX1_countTurned_26 : decode cX1_countTurned 26 = .ok (.bipush 10, 2) := by decide +kernel
theorem dX1_countTurned_28 : decode cX1_countTurned 28 = .ok (.irem, 1) := by decide +kernel
theorem dX1_countTurned_29 : decode cX1_countTurned 29 = .ok (.istore 5, 2) := by decide +kernel
theorem dX1_countTurned_31 : decode cX1_countTurned 31 = .ok (.iload_n 3, 1) := by decide +kernel
theorem dX1_countTurned_32 : decode cX1_countTurned 32 = .ok (.iload 4, 2) := by decide +kernel
theorem dX1_countTurned_34 : decode cX1_countTurned 34 = .ok (.if_icmp .ge 41, 3) := by decide +kernel
theorem dX1_countTurned_37 : decode cX1_countTurned 37 = .ok (.aload_n 0, 1) := by decide +kernel
theorem dX1_countTurned_38 : decode cX1_countTurned 38 = .ok (.getfield 49, 3) := by decide +kernel
theorem dX1_countTurned_41 : decode cX1_countTurned 41 = .ok (.iload_n 2, 1) := by decide +kernel
theorem dX1_countTurned_42 : decode cX1_countTurned 42 = .ok (.invokevirtual 129, 3) := by decide +kernel
theorem dX1_countTurned_45 : decode cX1_countTurned 45 = .ok (.ifCond .eq 30, 3) := by decide +kernel
theorem dX1_countTurned_48 : decode cX1_countTurned 48 = .ok (.aload_n 0, 1) := by decide +kernel
theorem dX1_countTurned_49 : decode cX1_countTurned 49 = .ok (.iload_n 2, 1) := by decide +kernel
theorem dX1_countTurned_50 : decode cX1_countTurned 50 = .ok (.invokevirtual 182, 3) := by decide +kernel
theorem dX1_countTurned_53 : decode cX1_countTurned 53 = .ok (.aload_n 0, 1) := by decide +kernel
theorem dX1_countTurned_54 : decode cX1_countTurned 54 = .ok (.aload_n 0, 1) := by decide +kernel
theorem dX1_countTurned_55 : decode cX1_countTurned 55 = .ok (.getfield 49, 3) := by decide +kernel
theorem dX1_countTurned_58 : decode cX1_countTurned 58 = .ok (.iload 4, 2) := by decide +kernel
theorem dX1_countTurned_60 : decode cX1_countTurned 60 = .ok (.iload_n 3, 1) := by decide +kernel
theorem dX1_countTurned_61 : decode cX1_countTurned 61 = .ok (.iload 5, 2) := by decide +kernel
theorem dX1_countTurned_63 : decode cX1_countTurned 63 = .ok (.invokevirtual 185, 3) := by decide +kernel
theorem dX1_countTurned_66 : decode cX1_countTurned 66 = .ok (.invokevirtual 182, 3) := by decide +kernel
theorem dX1_countTurned_69 : decode cX1_countTurned 69 = .ok (.if_icmp .ne 6, 3) := by decide +kernel
theorem dX1_countTurned_72 : decode cX1_countTurned 72 = .ok (.iinc 1 1, 3) := by decide +kernel
theorem dX1_countTurned_75 : decode cX1_countTurned 75 = .ok (.iinc 2 1, 3) := by decide +kernel
theorem dX1_countTurned_78 : decode cX1_countTurned 78 = .ok (.goto (-74), 3) := by decide +kernel
theorem dX1_countTurned_81 : decode cX1_countTurned 81 = .ok (.iload_n 1, 1) := by decide +kernel
theorem dX1_countTurned_82 : decode cX1_countTurned 82 = .ok (.ireturn, 1) := by decide +kernel
theorem dX1_openLength_0 : decode cX1_openLength 0 = .ok (.aload_n 0, 1) := by decide +kernel
theorem dX1_openLength_1 : decode cX1_openLength 1 = .ok (.getfield 61, 3) := by decide +kernel
theorem dX1_openLength_4 : decode cX1_openLength 4 = .ok (.getfield 149, 3) := by decide +kernel
theorem dX1_openLength_7 : decode cX1_openLength 7 = .ok (.iload_n 1, 1) := by decide +kernel
theorem dX1_openLength_8 : decode cX1_openLength 8 = .ok (.invokevirtual 153, 3) := by decide +kernel
theorem dX1_openLength_11 : decode cX1_openLength 11 = .ok (.aload_n 0, 1) := by decide +kernel
theorem dX1_openLength_12 : decode cX1_openLength 12 = .ok (.getfield 61, 3) := by decide +kernel
theorem dX1_openLength_15 : decode cX1_openLength 15 = .ok (.getfield 149, 3) := by decide +kernel
theorem dX1_openLength_18 : decode cX1_openLength 18 = .ok (.aload_n 0, 1) := by decide +kernel
theorem dX1_openLength_19 : decode cX1_openLength 19 = .ok (.getfield 53, 3) := by decide +kernel
theorem dX1_openLength_22 : decode cX1_openLength 22 = .ok (.sipush 200, 3) := by decide +kernel
theorem dX1_openLength_25 : decode cX1_openLength 25 = .ok (.invokevirtual 189, 3) := by decide +kernel
theorem dX1_openLength_28 : decode cX1_openLength 28 = .ok (.ireturn, 1) := by decide +kernel
theorem dX1_layHome_0 : decode cX1_layHome 0 = .ok (.aload_n 0, 1) := by decide +kernel
theorem dX1_layHome_1 : decode cX1_layHome 1 = .ok (.invokevirtual 69, 3) := by decide +kernel
theorem dX1_layHome_4 : decode cX1_layHome 4 = .ok (.iload_n 1, 1) := by decide +kernel
theorem dX1_layHome_5 : decode cX1_layHome 5 = .ok (.iconst (-1), 1) := by decide +kernel
theorem dX1_layHome_6 : decode cX1_layHome 6 = .ok (.if_icmp .eq 29, 3) := by decide +kernel
theorem dX1_layHome_9 : decode cX1_layHome 9 = .ok (.aload_n 0, 1) := by decide +kernel
theorem dX1_layHome_10 : decode cX1_layHome 10 = .ok (.getfield 49, 3) := by decide +kernel
theorem dX1_layHome_13 : decode cX1_layHome 13 = .ok (.iload_n 2, 1) := by decide +kernel
theorem dX1_layHome_14 : decode cX1_layHome 14 = .ok (.invokevirtual 86, 3) := by decide +kernel
theorem dX1_layHome_17 : decode cX1_layHome 17 = .ok (.ifCond .eq 18, 3) := by decide +kernel
theorem dX1_layHome_20 : decode cX1_layHome 20 = .ok (.aload_n 0, 1) := by decide +kernel
theorem dX1_layHome_21 : decode cX1_layHome 21 = .ok (.getfield 49, 3) := by decide +kernel
theorem dX1_layHome_24 : decode cX1_layHome 24 = .ok (.iload_n 3, 1) := by decide +kernel
theorem dX1_layHome_25 : decode cX1_layHome 25 = .ok (.invokevirtual 86, 3) := by decide +kernel
theorem dX1_layHome_28 : decode cX1_layHome 28 = .ok (.ifCond .eq 7, 3) := by decide +kernel
theorem dX1_layHome_31 : decode cX1_layHome 31 = .ok (.iconst 1, 1) := by decide +kernel
theorem dX1_layHome_32 : decode cX1_layHome 32 = .ok (.goto 4, 3) := by decide +kernel
theorem dX1_layHome_35 : decode cX1_layHome 35 = .ok (.iconst 0, 1) := by decide +kernel
theorem dX1_layHome_36 : decode cX1_layHome 36 = .ok (.istore 5, 2) := by decide +kernel
theorem dX1_layHome_38 : decode cX1_layHome 38 = .ok (.iload 5, 2) := by decide +kernel
theorem dX1_layHome_40 : decode cX1_layHome 40 = .ok (.ifCond .eq 15, 3) := by decide +kernel
theorem dX1_layHome_43 : decode cX1_layHome 43 = .ok (.iload 4, 2) := by decide +kernel
theorem dX1_layHome_45 : decode cX1_layHome 45 = .ok (.iconst 1, 1) := by decide +kernel
theorem dX1_layHome_46 : decode cX1_layHome 46 = .ok (.if_icmp .lt 9, 3) := by decide +kernel
theorem dX1_layHome_49 : decode cX1_layHome 49 = .ok (.iload 4, 2) := by decide +kernel
theorem dX1_layHome_51 : decode cX1_layHome 51 = .ok (.iconst 4, 1) := by decide +kernel
theorem dX1_layHome_52 : decode cX1_layHome 52 = .ok (.if_icmp .le 5, 3) := by decide +kernel
theorem dX1_layHome_55 : decode cX1_layHome 55 = .ok (.iconst (-1), 1) := by decide +kernel
theorem dX1_layHome_56 : decode cX1_layHome 56 = .ok (.ireturn, 1) := by decide +kernel
theorem dX1_layHome_57 : decode cX1_layHome 57 = .ok (.aload_n 0, 1) := by decide +kernel
theorem dX1_layHome_58 : decode cX1_layHome 58 = .ok (.iload_n 3, 1) := by decide +kernel
theorem dX1_layHome_59 : decode cX1_layHome 59 = .ok (.putfield 193, 3) := by decide +kernel
theorem dX1_layHome_62 : decode cX1_layHome 62 = .ok (.aload_n 0, 1) := by decide +kernel
theorem dX1_layHome_63 : decode cX1_layHome 63 = .ok (.iload 4, 2) := by decide +kernel
theorem dX1_layHome_65 : decode cX1_layHome 65 = .ok (.putfield 196, 3) := by decide +kernel
theorem dX1_layHome_68 : decode cX1_layHome 68 = .ok (.aload_n 0, 1) := by decide +kernel
theorem dX1_layHome_69 : decode cX1_layHome 69 = .ok (.iconst 0, 1) := by decide +kernel
theorem dX1_layHome_70 : decode cX1_layHome 70 = .ok (.putfield 199, 3) := by decide +kernel
theorem dX1_layHome_73 : decode cX1_layHome 73 = .ok (.aload_n 0, 1) := by decide +kernel
theorem dX1_layHome_74 : decode cX1_layHome 74 = .ok (.getfield 61, 3) := by decide +kernel
theorem dX1_layHome_77 : decode cX1_layHome 77 = .ok (.getfield 149, 3) := by decide +kernel
theorem dX1_layHome_80 : decode cX1_layHome 80 = .ok (.iload_n 1, 1) := by decide +kernel
theorem dX1_layHome_81 : decode cX1_layHome 81 = .ok (.invokevirtual 153, 3) := by decide +kernel
theorem dX1_layHome_84 : decode cX1_layHome 84 = .ok (.aload_n 0, 1) := by decide +kernel
theorem dX1_layHome_85 : decode cX1_layHome 85 = .ok (.getfield 61, 3) := by decide +kernel
theorem dX1_layHome_88 : decode cX1_layHome 88 = .ok (.getfield 149, 3) := by decide +kernel
theorem dX1_layHome_91 : decode cX1_layHome 91 = .ok (.aload_n 0, 1) := by decide +kernel
theorem dX1_layHome_92 : decode cX1_layHome 92 = .ok (.getfield 46, 3) := by decide +kernel
theorem dX1_layHome_95 : decode cX1_layHome 95 = .ok (.iconst 0, 1) := by decide +kernel
theorem dX1_layHome_96 : decode cX1_layHome 96 = .ok (.invokevirtual 202, 3) := by decide +kernel
theorem dX1_layHome_99 : decode cX1_layHome 99 = .ok (.aload_n 0, 1) := by decide +kernel
theorem dX1_layHome_100 : decode cX1_layHome 100 = .ok (.iload_n 2, 1) := by decide +kernel
theorem dX1_layHome_101 : decode cX1_layHome 101 = .ok (.invokevirtual 206, 3) := by decide +kernel
theorem dX1_layHome_104 : decode cX1_layHome 104 = .ok (.aload_n 0, 1) := by decide +kernel
theorem dX1_layHome_105 : decode cX1_layHome 105 = .ok (.getfield 199, 3) := by decide +kernel
theorem dX1_layHome_108 : decode cX1_layHome 108 = .ok (.ireturn, 1) := by decide +kernel
theorem dX1_searchHome_0 : decode cX1_searchHome 0 = .ok (.iconst 0, 1) := by decide +kernel
theorem dX1_searchHome_1 : decode cX1_searchHome 1 = .ok (.istore_n 2, 1) := by decide +kernel
theorem dX1_searchHome_2 : decode cX1_searchHome 2 = .ok (.aload_n 0, 1) := by decide +kernel
theorem dX1_searchHome_3 : decode cX1_searchHome 3 = .ok (.getfield 43, 3) := by decide +kernel
theorem dX1_searchHome_6 : decode cX1_searchHome 6 = .ok (.iconst 0, 1) := by decide +kernel
theorem dX1_searchHome_7 : decode cX1_searchHome 7 = .ok (.iload_n 1, 1) := by decide +kernel
theorem dX1_searchHome_8 : decode cX1_searchHome 8 = .ok (.iastore, 1) := by decide +kernel
theorem dX1_searchHome_9 : decode cX1_searchHome 9 = .ok (.aload_n 0, 1) := by decide +kernel
theorem dX1_searchHome_10 : decode cX1_searchHome 10 = .ok (.getfield 40, 3) := by decide +kernel
theorem dX1_searchHome_13 : decode cX1_searchHome 13 = .ok (.iconst 0, 1) := by decide +kernel
theorem dX1_searchHome_14 : decode cX1_searchHome 14 = .ok (.iconst (-1), 1) := by decide +kernel
theorem dX1_searchHome_15 : decode cX1_searchHome 15 = .ok (.iastore, 1) := by decide +kernel
theorem dX1_searchHome_16 : decode cX1_searchHome 16 = .ok (.iconst 0, 1) := by decide +kernel
theorem dX1_searchHome_17 : decode cX1_searchHome 17 = .ok (.istore_n 3, 1) := by decide +kernel
theorem dX1_searchHome_18 : decode cX1_searchHome 18 = .ok (.iload_n 3, 1) := by decide +kernel
theorem dX1_searchHome_19 : decode cX1_searchHome 19 = .ok (.ldc 95, 2) := by decide +kernel
theorem dX1_searchHome_21 : decode cX1_searchHome 21 = .ok (.if_icmp .ge 61, 3) := by decide +kernel
theorem dX1_searchHome_24 : decode cX1_searchHome 24 = .ok (.iload_n 2, 1) := by decide +kernel
theorem dX1_searchHome_25 : decode cX1_searchHome 25 = .ok (.ifCond .lt 57, 3) := by decide +kernel
theorem dX1_searchHome_28 : decode cX1_searchHome 28 = .ok (.iload_n 2, 1) := by decide +kernel
theorem dX1_searchHome_29 : decode cX1_searchHome 29 = .ok (.iconst 4, 1) := by decide +kernel
theorem dX1_searchHome_30 : decode cX1_searchHome 30 = .ok (.if_icmp .ge 52, 3) := by decide +kernel
theorem dX1_searchHome_33 : decode cX1_searchHome 33 = .ok (.aload_n 0, 1) := by decide +kernel
theorem dX1_searchHome_34 : decode cX1_searchHome 34 = .ok (.getfield 40, 3) := by decide +kernel
theorem dX1_searchHome_37 : decode cX1_searchHome 37 = .ok (.iload_n 2, 1) := by decide +kernel
theorem dX1_searchHome_38 : decode cX1_searchHome 38 = .ok (.dup2, 1) := by decide +kernel
theorem dX1_searchHome_39 : decode cX1_searchHome 39 = .ok (.iaload, 1) := by decide +kernel
theorem dX1_searchHome_40 : decode cX1_searchHome 40 = .ok (.iconst 1, 1) := by decide +kernel
theorem dX1_searchHome_41 : decode cX1_searchHome 41 = .ok (.iadd, 1) := by decide +kernel
theorem dX1_searchHome_42 : decode cX1_searchHome 42 = .ok (.iastore, 1) := by decide +kernel
theorem dX1_searchHome_43 : decode cX1_searchHome 43 = .ok (.aload_n 0, 1) := by decide +kernel
theorem dX1_searchHome_44 : decode cX1_searchHome 44 = .ok (.getfield 40, 3) := by decide +kernel
theorem dX1_searchHome_47 : decode cX1_searchHome 47 = .ok (.iload_n 2, 1) := by decide +kernel
theorem dX1_searchHome_48 : decode cX1_searchHome 48 = .ok (.iaload, 1) := by decide +kernel
theorem dX1_searchHome_49 : decode cX1_searchHome 49 = .ok (.aload_n 0, 1) := by decide +kernel
theorem dX1_searchHome_50 : decode cX1_searchHome 50 = .ok (.getfield 49, 3) := by decide +kernel
theorem dX1_searchHome_53 : decode cX1_searchHome 53 = .ok (.getfield 110, 3) := by decide +kernel
theorem dX1_searchHome_56 : decode cX1_searchHome 56 = .ok (.if_icmp .lt 9, 3) := by decide +kernel
theorem dX1_searchHome_59 : decode cX1_searchHome 59 = .ok (.iinc 2 (-1), 3) := by decide +kernel
theorem dX1_searchHome_62 : decode cX1_searchHome 62 = .ok (.goto 14, 3) := by decide +kernel
theorem dX1_searchHome_65 : decode cX1_searchHome 65 = .ok (.aload_n 0, 1) := by decide +kernel
theorem dX1_searchHome_66 : decode cX1_searchHome 66 = .ok (.iload_n 2, 1) := by decide +kernel
theorem dX1_searchHome_67 : decode cX1_searchHome 67 = .ok (.invokevirtual 209, 3) := by decide +kernel
theorem dX1_searchHome_70 : decode cX1_searchHome 70 = .ok (.ifCond .eq 6, 3) := by decide +kernel
theorem dX1_searchHome_73 : decode cX1_searchHome 73 = .ok (.iinc 2 1, 3) := by decide +kernel
theorem dX1_searchHome_76 : decode cX1_searchHome 76 = .ok (.iinc 3 1, 3) := by decide +kernel
theorem dX1_searchHome_79 : decode cX1_searchHome 79 = .ok (.goto (-61), 3) := by decide +kernel
theorem dX1_searchHome_82 : decode cX1_searchHome 82 = .ok (.return_, 1) := by decide +kernel
theorem dX1_goesOn_0 : decode cX1_goesOn 0 = .ok (.iload_n 1, 1) := by decide +kernel
theorem dX1_goesOn_1 : decode cX1_goesOn 1 = .ok (.ifCond .lt 8, 3) := by decide +kernel
theorem dX1_goesOn_4 : decode cX1_goesOn 4 = .ok (.iload_n 1, 1) := by decide +kernel
theorem dX1_goesOn_5 : decode cX1_goesOn 5 = .ok (.iconst 4, 1) := by decide +kernel
theorem dX1_goesOn_6 : decode cX1_goesOn 6 = .ok (.if_icmp .lt 5, 3) := by decide +kernel
theorem dX1_goesOn_9 : decode cX1_goesOn 9 = .ok (.iconst 0, 1) := by decide +kernel
theorem dX1_goesOn_10 : decode cX1_goesOn 10 = .ok (.ireturn, 1) := by decide +kernel
theorem dX1_goesOn_11 : decode cX1_goesOn 11 = .ok (.aload_n 0, 1) := by decide +kernel
theorem dX1_goesOn_12 : decode cX1_goesOn 12 = .ok (.getfield 40, 3) := by decide +kernel
theorem dX1_goesOn_15 : decode cX1_goesOn 15 = .ok (.iload_n 1, 1) := by decide +kernel
theorem dX1_goesOn_16 : decode cX1_goesOn 16 = .ok (.iaload, 1) := by decide +kernel
theorem dX1_goesOn_17 : decode cX1_goesOn 17 = .ok (.istore_n 2, 1) := by decide +kernel
theorem dX1_goesOn_18 : decode cX1_goesOn 18 = .ok (.aload_n 0, 1) := by decide +kernel
theorem dX1_goesOn_19 : decode cX1_goesOn 19 = .ok (.getfield 49, 3) := by decide +kernel
theorem dX1_goesOn_22 : decode cX1_goesOn 22 = .ok (.iload_n 2, 1) := by decide +kernel
theorem dX1_goesOn_23 : decode cX1_goesOn 23 = .ok (.aload_n 0, 1) := by decide +kernel
theorem dX1_goesOn_24 : decode cX1_goesOn 24 = .ok (.getfield 43, 3) := by decide +kernel
theorem dX1_goesOn_27 : decode cX1_goesOn 27 = .ok (.iload_n 1, 1) := by decide +kernel
theorem dX1_goesOn_28 : decode cX1_goesOn 28 = .ok (.iaload, 1) := by decide +kernel
theorem dX1_goesOn_29 : decode cX1_goesOn 29 = .ok (.invokevirtual 126, 3) := by decide +kernel
theorem dX1_goesOn_32 : decode cX1_goesOn 32 = .ok (.istore_n 3, 1) := by decide +kernel
theorem dX1_goesOn_33 : decode cX1_goesOn 33 = .ok (.iload_n 3, 1) := by decide +kernel
theorem dX1_goesOn_34 : decode cX1_goesOn 34 = .ok (.iconst (-1), 1) := by decide +kernel
theorem dX1_goesOn_35 : decode cX1_goesOn 35 = .ok (.if_icmp .ne 5, 3) := by decide +kernel
theorem dX1_goesOn_38 : decode cX1_goesOn 38 = .ok (.iconst 0, 1) := by decide +kernel
theorem dX1_goesOn_39 : decode cX1_goesOn 39 = .ok (.ireturn, 1) := by decide +kernel
theorem dX1_goesOn_40 : decode cX1_goesOn 40 = .ok (.aload_n 0, 1) := by decide +kernel
theorem dX1_goesOn_41 : decode cX1_goesOn 41 = .ok (.getfield 61, 3) := by decide +kernel
theorem dX1_goesOn_44 : decode cX1_goesOn 44 = .ok (.getfield 149, 3) := by decide +kernel
theorem dX1_goesOn_47 : decode cX1_goesOn 47 = .ok (.astore 4, 2) := by decide +kernel
theorem dX1_goesOn_49 : decode cX1_goesOn 49 = .ok (.aload 4, 2) := by decide +kernel
theorem dX1_goesOn_51 : decode cX1_goesOn 51 = .ok (.aload_n 0, 1) := by decide +kernel
theorem dX1_goesOn_52 : decode cX1_goesOn 52 = .ok (.getfield 46, 3) := by decide +kernel
theorem dX1_goesOn_55 : decode cX1_goesOn 55 = .ok (.iload_n 1, 1) := by decide +kernel
theorem dX1_goesOn_56 : decode cX1_goesOn 56 = .ok (.bipush 24, 2) := by decide +kernel
theorem dX1_goesOn_58 : decode cX1_goesOn 58 = .ok (.imul, 1) := by decide +kernel
theorem dX1_goesOn_59 : decode cX1_goesOn 59 = .ok (.invokevirtual 212, 3) := by decide +kernel
theorem dX1_goesOn_62 : decode cX1_goesOn 62 = .ok (.iconst 0, 1) := by decide +kernel
theorem dX1_goesOn_63 : decode cX1_goesOn 63 = .ok (.istore 5, 2) := by decide +kernel
theorem dX1_goesOn_65 : decode cX1_goesOn 65 = .ok (.iload 5, 2) := by decide +kernel
theorem dX1_goesOn_67 : decode cX1_goesOn 67 = .ok (.aload_n 0, 1) := by decide +kernel
theorem dX1_goesOn_68 : decode cX1_goesOn 68 = .ok (.getfield 49, 3) := by decide +kernel
theorem dX1_goesOn_71 : decode cX1_goesOn 71 = .ok (.getfield 118, 3) := by decide +kernel
theorem dX1_goesOn_74 : decode cX1_goesOn 74 = .ok (.iload_n 2, 1) := by decide +kernel
theorem dX1_goesOn_75 : decode cX1_goesOn 75 = .ok (.iaload, 1) := by decide +kernel
theorem dX1_goesOn_76 : decode cX1_goesOn 76 = .ok (.if_icmp .ge 30, 3) := by decide +kernel
theorem dX1_goesOn_79 : decode cX1_goesOn 79 = .ok (.aload 4, 2) := by decide +kernel
theorem dX1_goesOn_81 : decode cX1_goesOn 81 = .ok (.invokevirtual 215, 3) := by decide +kernel
theorem dX1_goesOn_84 : decode cX1_goesOn 84 = .ok (.ifCond .ne 22, 3) := by decide +kernel
theorem dX1_goesOn_87 : decode cX1_goesOn 87 = .ok (.iinc 5 1, 3) := by decide +kernel
theorem dX1_goesOn_90 : decode cX1_goesOn 90 = .ok (.aload 4, 2) := by decide +kernel
theorem dX1_goesOn_92 : decode cX1_goesOn 92 = .ok (.aload_n 0, 1) := by decide +kernel
theorem dX1_goesOn_93 : decode cX1_goesOn 93 = .ok (.getfield 53, 3) := by decide +kernel
theorem dX1_goesOn_96 : decode cX1_goesOn 96 = .ok (.iload_n 2, 1) := by decide +kernel
theorem dX1_goesOn_97 : decode cX1_goesOn 97 = .ok (.iload 5, 2) := by decide +kernel
theorem dX1_goesOn_99 : decode cX1_goesOn 99 = .ok (.iload_n 3, 1) := by decide +kernel
theorem dX1_goesOn_100 : decode cX1_goesOn 100 = .ok (.invokevirtual 218, 3) := by decide +kernel
theorem dX1_goesOn_103 : decode cX1_goesOn 103 = .ok (.goto (-38), 3) := by decide +kernel
theorem dX1_goesOn_106 : decode cX1_goesOn 106 = .ok (.aload 4, 2) := by decide +kernel
theorem dX1_goesOn_108 : decode cX1_goesOn 108 = .ok (.invokevirtual 215, 3) := by decide +kernel
theorem dX1_goesOn_111 : decode cX1_goesOn 111 = .ok (.ifCond .eq 34, 3) := by decide +kernel
theorem dX1_goesOn_114 : decode cX1_goesOn 114 = .ok (.iload 5, 2) := by decide +kernel
theorem dX1_goesOn_116 : decode cX1_goesOn 116 = .ok (.aload_n 0, 1) := by decide +kernel
theorem dX1_goesOn_117 : decode cX1_goesOn 117 = .ok (.getfield 49, 3) := by decide +kernel
theorem dX1_goesOn_120 : decode cX1_goesOn 120 = .ok (.getfield 118, 3) := by decide +kernel
theorem dX1_goesOn_123 : decode cX1_goesOn 123 = .ok (.iload_n 2, 1) := by decide +kernel
theorem dX1_goesOn_124 : decode cX1_goesOn 124 = .ok (.iaload, 1) := by decide +kernel
theorem dX1_goesOn_125 : decode cX1_goesOn 125 = .ok (.if_icmp .ne 18, 3) := by decide +kernel
theorem dX1_goesOn_128 : decode cX1_goesOn 128 = .ok (.iload_n 3, 1) := by decide +kernel
theorem dX1_goesOn_129 : decode cX1_goesOn 129 = .ok (.aload_n 0, 1) := by decide +kernel
theorem dX1_goesOn_130 : decode cX1_goesOn 130 = .ok (.getfield 193, 3) := by decide +kernel
theorem dX1_goesOn_133 : decode cX1_goesOn 133 = .ok (.if_icmp .ne 10, 3) := by decide +kernel
theorem dX1_goesOn_136 : decode cX1_goesOn 136 = .ok (.aload_n 0, 1) := by decide +kernel
theorem dX1_goesOn_137 : decode cX1_goesOn 137 = .ok (.iload_n 1, 1) := by decide +kernel
theorem dX1_goesOn_138 : decode cX1_goesOn 138 = .ok (.iconst 1, 1) := by decide +kernel
theorem dX1_goesOn_139 : decode cX1_goesOn 139 = .ok (.iadd, 1) := by decide +kernel
theorem dX1_goesOn_140 : decode cX1_goesOn 140 = .ok (.invokevirtual 222, 3) := by decide +kernel
theorem dX1_goesOn_143 : decode cX1_goesOn 143 = .ok (.iconst 0, 1) := by decide +kernel
theorem dX1_goesOn_144 : decode cX1_goesOn 144 = .ok (.ireturn, 1) := by decide +kernel
theorem dX1_goesOn_145 : decode cX1_goesOn 145 = .ok (.iload_n 1, 1) := by decide +kernel
theorem dX1_goesOn_146 : decode cX1_goesOn 146 = .ok (.iconst 1, 1) := by decide +kernel
theorem dX1_goesOn_147 : decode cX1_goesOn 147 = .ok (.iadd, 1) := by decide +kernel
theorem dX1_goesOn_148 : decode cX1_goesOn 148 = .ok (.aload_n 0, 1) := by decide +kernel
theorem dX1_goesOn_149 : decode cX1_goesOn 149 = .ok (.getfield 196, 3) := by decide +kernel
theorem dX1_goesOn_152 : decode cX1_goesOn 152 = .ok (.if_icmp .ge 10, 3) := by decide +kernel
theorem dX1_goesOn_155 : decode cX1_goesOn 155 = .ok (.iload_n 1, 1) := by decide +kernel
theorem dX1_goesOn_156 : decode cX1_goesOn 156 = .ok (.iconst 1, 1) := by decide +kernel
theorem dX1_goesOn_157 : decode cX1_goesOn 157 = .ok (.iadd, 1) := by decide +kernel
theorem dX1_goesOn_158 : decode cX1_goesOn 158 = .ok (.iconst 4, 1) := by decide +kernel
theorem dX1_goesOn_159 : decode cX1_goesOn 159 = .ok (.if_icmp .lt 5, 3) := by decide +kernel
theorem dX1_goesOn_162 : decode cX1_goesOn 162 = .ok (.iconst 0, 1) := by decide +kernel
theorem dX1_goesOn_163 : decode cX1_goesOn 163 = .ok (.ireturn, 1) := by decide +kernel
theorem dX1_goesOn_164 : decode cX1_goesOn 164 = .ok (.aload_n 0, 1) := by decide +kernel
theorem dX1_goesOn_165 : decode cX1_goesOn 165 = .ok (.getfield 43, 3) := by decide +kernel
theorem dX1_goesOn_168 : decode cX1_goesOn 168 = .ok (.iload_n 1, 1) := by decide +kernel
theorem dX1_goesOn_169 : decode cX1_goesOn 169 = .ok (.iconst 1, 1) := by decide +kernel
theorem dX1_goesOn_170 : decode cX1_goesOn 170 = .ok (.iadd, 1) := by decide +kernel
theorem dX1_goesOn_171 : decode cX1_goesOn 171 = .ok (.iload_n 3, 1) := by decide +kernel
theorem dX1_goesOn_172 : decode cX1_goesOn 172 = .ok (.iastore, 1) := by decide +kernel
theorem dX1_goesOn_173 : decode cX1_goesOn 173 = .ok (.aload_n 0, 1) := by decide +kernel
theorem dX1_goesOn_174 : decode cX1_goesOn 174 = .ok (.getfield 40, 3) := by decide +kernel
theorem dX1_goesOn_177 : decode cX1_goesOn 177 = .ok (.iload_n 1, 1) := by decide +kernel
theorem dX1_goesOn_178 : decode cX1_goesOn 178 = .ok (.iconst 1, 1) := by decide +kernel
theorem dX1_goesOn_179 : decode cX1_goesOn 179 = .ok (.iadd, 1) := by decide +kernel
theorem dX1_goesOn_180 : decode cX1_goesOn 180 = .ok (.iconst (-1), 1) := by decide +kernel
theorem dX1_goesOn_181 : decode cX1_goesOn 181 = .ok (.iastore, 1) := by decide +kernel
theorem dX1_goesOn_182 : decode cX1_goesOn 182 = .ok (.aload 4, 2) := by decide +kernel
theorem dX1_goesOn_184 : decode cX1_goesOn 184 = .ok (.aload_n 0, 1) := by decide +kernel
theorem dX1_goesOn_185 : decode cX1_goesOn 185 = .ok (.getfield 46, 3) := by decide +kernel
theorem dX1_goesOn_188 : decode cX1_goesOn 188 = .ok (.iload_n 1, 1) := by decide +kernel
theorem dX1_goesOn_189 : decode cX1_goesOn 189 = .ok (.iconst 1, 1) := by decide +kernel
theorem dX1_goesOn_190 : decode cX1_goesOn 190 = .ok (.iadd, 1) := by decide +kernel
theorem dX1_goesOn_191 : decode cX1_goesOn 191 = .ok (.bipush 24, 2) := by decide +kernel
theorem dX1_goesOn_193 : decode cX1_goesOn 193 = .ok (.imul, 1) := by decide +kernel
theorem dX1_goesOn_194 : decode cX1_goesOn 194 = .ok (.invokevirtual 202, 3) := by decide +kernel
theorem dX1_goesOn_197 : decode cX1_goesOn 197 = .ok (.iconst 1, 1) := by decide +kernel
theorem dX1_goesOn_198 : decode cX1_goesOn 198 = .ok (.ireturn, 1) := by decide +kernel
theorem dX1_layRow_0 : decode cX1_layRow 0 = .ok (.aload_n 0, 1) := by decide +kernel
theorem dX1_layRow_1 : decode cX1_layRow 1 = .ok (.dup, 1) := by decide +kernel
theorem dX1_layRow_2 : decode cX1_layRow 2 = .ok (.getfield 199, 3) := by decide +kernel
theorem dX1_layRow_5 : decode cX1_layRow 5 = .ok (.iconst 1, 1) := by decide +kernel
theorem dX1_layRow_6 : decode cX1_layRow 6 = .ok (.iadd, 1) := by decide +kernel
theorem dX1_layRow_7 : decode cX1_layRow 7 = .ok (.putfield 199, 3) := by decide +kernel
theorem dX1_layRow_10 : decode cX1_layRow 10 = .ok (.aload_n 0, 1) := by decide +kernel
theorem dX1_layRow_11 : decode cX1_layRow 11 = .ok (.getfield 199, 3) := by decide +kernel
theorem dX1_layRow_14 : decode cX1_layRow 14 = .ok (.iconst 1, 1) := by decide +kernel
theorem dX1_layRow_15 : decode cX1_layRow 15 = .ok (.if_icmp .le 12, 3) := by decide +kernel
theorem dX1_layRow_18 : decode cX1_layRow 18 = .ok (.iload_n 1, 1) := by decide +kernel
theorem dX1_layRow_19 : decode cX1_layRow 19 = .ok (.aload_n 0, 1) := by decide +kernel
theorem dX1_layRow_20 : decode cX1_layRow 20 = .ok (.getfield 65, 3) := by decide +kernel
theorem dX1_layRow_23 : decode cX1_layRow 23 = .ok (.if_icmp .lt 4, 3) := by decide +kernel
theorem dX1_layRow_26 : decode cX1_layRow 26 = .ok (.return_, 1) := by decide +kernel
theorem dX1_layRow_27 : decode cX1_layRow 27 = .ok (.aload_n 0, 1) := by decide +kernel
theorem dX1_layRow_28 : decode cX1_layRow 28 = .ok (.invokevirtual 69, 3) := by decide +kernel
theorem dX1_layRow_31 : decode cX1_layRow 31 = .ok (.iconst 0, 1) := by decide +kernel
theorem dX1_layRow_32 : decode cX1_layRow 32 = .ok (.istore_n 2, 1) := by decide +kernel
theorem dX1_layRow_33 : decode cX1_layRow 33 = .ok (.iload_n 2, 1) := by decide +kernel
theorem dX1_layRow_34 : decode cX1_layRow 34 = .ok (.iload_n 1, 1) := by decide +kernel
theorem dX1_layRow_35 : decode cX1_layRow 35 = .ok (.if_icmp .ge 24, 3) := by decide +kernel
theorem dX1_layRow_38 : decode cX1_layRow 38 = .ok (.iload_n 2, 1) := by decide +kernel
theorem dX1_layRow_39 : decode cX1_layRow 39 = .ok (.iconst 4, 1) := by decide +kernel
theorem dX1_layRow_40 : decode cX1_layRow 40 = .ok (.if_icmp .ge 19, 3) := by decide +kernel
theorem dX1_layRow_43 : decode cX1_layRow 43 = .ok (.aload_n 0, 1) := by decide +kernel
theorem dX1_layRow_44 : decode cX1_layRow 44 = .ok (.aload_n 0, 1) := by decide +kernel
theorem dX1_layRow_45 : decode cX1_layRow 45 = .ok (.getfield 40, 3) := by decide +kernel
theorem dX1_layRow_48 : decode cX1_layRow 48 = .ok (.iload_n 2, 1) := by decide +kernel
theorem dX1_layRow_49 : decode cX1_layRow 49 = .ok (.iaload, 1) := by decide +kernel
theorem dX1_layRow_50 : decode cX1_layRow 50 = .ok (.invokevirtual 82, 3) := by decide +kernel
theorem dX1_layRow_53 : decode cX1_layRow 53 = .ok (.iinc 2 1, 3) := by decide +kernel
theorem dX1_layRow_56 : decode cX1_layRow 56 = .ok (.goto (-23), 3) := by decide +kernel
theorem dX1_layRow_59 : decode cX1_layRow 59 = .ok (.return_, 1) := by decide +kernel
theorem dX1_layTempers_0 : decode cX1_layTempers 0 = .ok (.aload_n 0, 1) := by decide +kernel
theorem dX1_layTempers_1 : decode cX1_layTempers 1 = .ok (.invokevirtual 69, 3) := by decide +kernel
theorem dX1_layTempers_4 : decode cX1_layTempers 4 = .ok (.iload_n 1, 1) := by decide +kernel
theorem dX1_layTempers_5 : decode cX1_layTempers 5 = .ok (.iconst (-1), 1) := by decide +kernel
theorem dX1_layTempers_6 : decode cX1_layTempers 6 = .ok (.if_icmp .eq 14, 3) := by decide +kernel
theorem dX1_layTempers_9 : decode cX1_layTempers 9 = .ok (.iload_n 2, 1) := by decide +kernel
theorem dX1_layTempers_10 : decode cX1_layTempers 10 = .ok (.iconst 1, 1) := by decide +kernel
theorem dX1_layTempers_11 : decode cX1_layTempers 11 = .ok (.if_icmp .lt 9, 3) := by decide +kernel
theorem dX1_layTempers_14 : decode cX1_layTempers 14 = .ok (.iload_n 2, 1) := by decide +kernel
theorem dX1_layTempers_15 : decode cX1_layTempers 15 = .ok (.bipush 60, 2) := by decide +kernel
theorem dX1_layTempers_17 : decode cX1_layTempers 17 = .ok (.if_icmp .le 6, 3) := by decide +kernel
theorem dX1_layTempers_20 : decode cX1_layTempers 20 = .ok (.bipush (-2), 2) := by decide +kernel
theorem dX1_layTempers_22 : decode cX1_layTempers 22 = .ok (.ireturn, 1) := by decide +kernel
theorem dX1_layTempers_23 : decode cX1_layTempers 23 = .ok (.aload_n 0, 1) := by decide +kernel
theorem dX1_layTempers_24 : decode cX1_layTempers 24 = .ok (.iload_n 2, 1) := by decide +kernel
theorem dX1_layTempers_25 : decode cX1_layTempers 25 = .ok (.putfield 225, 3) := by decide +kernel
theorem dX1_layTempers_28 : decode cX1_layTempers 28 = .ok (.aload_n 0, 1) := by decide +kernel
theorem dX1_layTempers_29 : decode cX1_layTempers 29 = .ok (.iload_n 1, 1) := by decide +kernel
theorem dX1_layTempers_30 : decode cX1_layTempers 30 = .ok (.invokevirtual 228, 3) := by decide +kernel
theorem dX1_layTempers_33 : decode cX1_layTempers 33 = .ok (.iconst 0, 1) := by decide +kernel
theorem dX1_layTempers_34 : decode cX1_layTempers 34 = .ok (.istore_n 3, 1) := by decide +kernel
theorem dX1_layTempers_35 : decode cX1_layTempers 35 = .ok (.iload_n 3, 1) := by decide +kernel
theorem dX1_layTempers_36 : decode cX1_layTempers 36 = .ok (.bipush 36, 2) := by decide +kernel
theorem dX1_layTempers_38 : decode cX1_layTempers 38 = .ok (.if_icmp .gt 20, 3) := by decide +kernel
theorem dX1_layTempers_41 : decode cX1_layTempers 41 = .ok (.aload_n 0, 1) := by decide +kernel
theorem dX1_layTempers_42 : decode cX1_layTempers 42 = .ok (.iload_n 1, 1) := by decide +kernel
theorem dX1_layTempers_43 : decode cX1_layTempers 43 = .ok (.iload_n 3, 1) := by decide +kernel
theorem dX1_layTempers_44 : decode cX1_layTempers 44 = .ok (.invokevirtual 231, 3) := by decide +kernel
theorem dX1_layTempers_47 : decode cX1_layTempers 47 = .ok (.ifCond .eq 5, 3) := by decide +kernel
theorem dX1_layTempers_50 : decode cX1_layTempers 50 = .ok (.iload_n 3, 1) := by decide +kernel
theorem dX1_layTempers_51 : decode cX1_layTempers 51 = .ok (.ireturn, 1) := by decide +kernel
theorem dX1_layTempers_52 : decode cX1_layTempers 52 = .ok (.iinc 3 1, 3) := by decide +kernel
theorem dX1_layTempers_55 : decode cX1_layTempers 55 = .ok (.goto (-20), 3) := by decide +kernel
theorem dX1_layTempers_58 : decode cX1_layTempers 58 = .ok (.iconst (-1), 1) := by decide +kernel
theorem dX1_layTempers_59 : decode cX1_layTempers 59 = .ok (.ireturn, 1) := by decide +kernel
theorem dX1_setBounds_0 : decode cX1_setBounds 0 = .ok (.iconst 0, 1) := by decide +kernel
theorem dX1_setBounds_1 : decode cX1_setBounds 1 = .ok (.istore_n 2, 1) := by decide +kernel
theorem dX1_setBounds_2 : decode cX1_setBounds 2 = .ok (.iload_n 2, 1) := by decide +kernel
theorem dX1_setBounds_3 : decode cX1_setBounds 3 = .ok (.iconst 4, 1) := by decide +kernel
theorem dX1_setBounds_4 : decode cX1_setBounds 4 = .ok (.if_icmp .ge 99, 3) := by decide +kernel
theorem dX1_setBounds_7 : decode cX1_setBounds 7 = .ok (.iload_n 2, 1) := by decide +kernel
theorem dX1_setBounds_8 : decode cX1_setBounds 8 = .ok (.iconst 2, 1) := by decide +kernel
theorem dX1_setBounds_9 : decode cX1_setBounds 9 = .ok (.irem, 1) := by decide +kernel
theorem dX1_setBounds_10 : decode cX1_setBounds 10 = .ok (.ifCond .ne 7, 3) := by decide +kernel
theorem dX1_setBounds_13 : decode cX1_setBounds 13 = .ok (.iconst 2, 1) := by decide +kernel
theorem dX1_setBounds_14 : decode cX1_setBounds 14 = .ok (.goto 4, 3) := by decide +kernel
theorem dX1_setBounds_17 : decode cX1_setBounds 17 = .ok (.iconst 3, 1) := by decide +kernel
theorem dX1_setBounds_18 : decode cX1_setBounds 18 = .ok (.istore_n 3, 1) := by decide +kernel
theorem dX1_setBounds_19 : decode cX1_setBounds 19 = .ok (.aload_n 0, 1) := by decide +kernel
theorem dX1_setBounds_20 : decode cX1_setBounds 20 = .ok (.getfield 49, 3) := by decide +kernel
theorem dX1_setBounds_23 : decode cX1_setBounds 23 = .ok (.getfield 235, 3) := by decide +kernel
theorem dX1_setBounds_26 : decode cX1_setBounds 26 = .ok (.iload_n 3, 1) := by decide +kernel
theorem dX1_setBounds_27 : decode cX1_setBounds 27 = .ok (.invokevirtual 239, 3) := by decide +kernel
theorem dX1_setBounds_30 : decode cX1_setBounds 30 = .ok (.ifCond .ne 17, 3) := by decide +kernel
theorem dX1_setBounds_33 : decode cX1_setBounds 33 = .ok (.aload_n 0, 1) := by decide +kernel
theorem dX1_setBounds_34 : decode cX1_setBounds 34 = .ok (.getfield 49, 3) := by decide +kernel
theorem dX1_setBounds_37 : decode cX1_setBounds 37 = .ok (.getfield 244, 3) := by decide +kernel
theorem dX1_setBounds_40 : decode cX1_setBounds 40 = .ok (.iload_n 3, 1) := by decide +kernel
theorem dX1_setBounds_41 : decode cX1_setBounds 41 = .ok (.invokevirtual 239, 3) := by decide +kernel
theorem dX1_setBounds_44 : decode cX1_setBounds 44 = .ok (.ifCond .eq 7, 3) := by decide +kernel
theorem dX1_setBounds_47 : decode cX1_setBounds 47 = .ok (.iconst 1, 1) := by decide +kernel
theorem dX1_setBounds_48 : decode cX1_setBounds 48 = .ok (.goto 4, 3) := by decide +kernel
theorem dX1_setBounds_51 : decode cX1_setBounds 51 = .ok (.iconst 0, 1) := by decide +kernel
theorem dX1_setBounds_52 : decode cX1_setBounds 52 = .ok (.istore 4, 2) := by decide +kernel
theorem dX1_setBounds_54 : decode cX1_setBounds 54 = .ok (.aload_n 0, 1) := by decide +kernel
theorem dX1_setBounds_55 : decode cX1_setBounds 55 = .ok (.iload_n 1, 1) := by decide +kernel
theorem dX1_setBounds_56 : decode cX1_setBounds 56 = .ok (.iload_n 2, 1) := by decide +kernel
theorem dX1_setBounds_57 : decode cX1_setBounds 57 = .ok (.invokevirtual 247, 3) := by decide +kernel
theorem dX1_setBounds_60 : decode cX1_setBounds 60 = .ok (.istore 5, 2) := by decide +kernel
theorem dX1_setBounds_62 : decode cX1_setBounds 62 = .ok (.aload_n 0, 1) := by decide +kernel
theorem dX1_setBounds_63 : decode cX1_setBounds 63 = .ok (.getfield 34, 3) := by decide +kernel
theorem dX1_setBounds_66 : decode cX1_setBounds 66 = .ok (.iload_n 2, 1) := by decide +kernel
theorem dX1_setBounds_67 : decode cX1_setBounds 67 = .ok (.iload 4, 2) := by decide +kernel
theorem dX1_setBounds_69 : decode cX1_setBounds 69 = .ok (.ifCond .eq 7, 3) := by decide +kernel
theorem dX1_setBounds_72 : decode cX1_setBounds 72 = .ok (.iconst 0, 1) := by decide +kernel
theorem dX1_setBounds_73 : decode cX1_setBounds 73 = .ok (.goto 5, 3) := by decide +kernel
theorem dX1_setBounds_76 : decode cX1_setBounds 76 = .ok (.iload 5, 2) := by decide +kernel
theorem dX1_setBounds_78 : decode cX1_setBounds 78 = .ok (.iastore, 1) := by decide +kernel
theorem dX1_setBounds_79 : decode cX1_setBounds 79 = .ok (.aload_n 0, 1) := by decide +kernel
theorem dX1_setBounds_80 : decode cX1_setBounds 80 = .ok (.getfield 37, 3) := by decide +kernel
theorem dX1_setBounds_83 : decode cX1_setBounds 83 = .ok (.iload_n 2, 1) := by decide +kernel
theorem dX1_setBounds_84 : decode cX1_setBounds 84 = .ok (.iload 4, 2) := by decide +kernel
theorem dX1_setBounds_86 : decode cX1_setBounds 86 = .ok (.ifCond .eq 8, 3) := by decide +kernel
theorem dX1_setBounds_89 : decode cX1_setBounds 89 = .ok (.bipush 9, 2) := by decide +kernel
theorem dX1_setBounds_91 : decode cX1_setBounds 91 = .ok (.goto 5, 3) := by decide +kernel
theorem dX1_setBounds_94 : decode cX1_setBounds 94 = .ok (.iload 5, 2) := by decide +kernel
theorem dX1_setBounds_96 : decode cX1_setBounds 96 = .ok (.iastore, 1) := by decide +kernel
theorem dX1_setBounds_97 : decode cX1_setBounds 97 = .ok (.iinc 2 1, 3) := by decide +kernel
theorem dX1_setBounds_100 : decode cX1_setBounds 100 = .ok (.goto (-98), 3) := by decide +kernel
theorem dX1_setBounds_103 : decode cX1_setBounds 103 = .ok (.return_, 1) := by decide +kernel
theorem dX1_temperAt_0 : decode cX1_temperAt 0 = .ok (.iload_n 1, 1) := by decide +kernel
theorem dX1_temperAt_1 : decode cX1_temperAt 1 = .ok (.iconst 2, 1) := by decide +kernel
theorem dX1_temperAt_2 : decode cX1_temperAt 2 = .ok (.if_icmp .ge 10, 3) := by decide +kernel
theorem dX1_temperAt_5 : decode cX1_temperAt 5 = .ok (.iload_n 0, 1) := by decide +kernel
theorem dX1_temperAt_6 : decode cX1_temperAt 6 = .ok (.bipush 100, 2) := by decide +kernel
theorem dX1_temperAt_8 : decode cX1_temperAt 8 = .ok (.idiv, 1) := by decide +kernel
theorem dX1_temperAt_9 : decode cX1_temperAt 9 = .ok (.goto 10, 3) := by decide +kernel
theorem dX1_temperAt_12 : decode cX1_temperAt 12 = .ok (.iload_n 0, 1) := by decide +kernel
theorem dX1_temperAt_13 : decode cX1_temperAt 13 = .ok (.bipush 10, 2) := by decide +kernel
theorem dX1_temperAt_15 : decode cX1_temperAt 15 = .ok (.idiv, 1) := by decide +kernel
theorem dX1_temperAt_16 : decode cX1_temperAt 16 = .ok (.bipush 10, 2) := by decide +kernel
theorem dX1_temperAt_18 : decode cX1_temperAt 18 = .ok (.irem, 1) := by decide +kernel
theorem dX1_temperAt_19 : decode cX1_temperAt 19 = .ok (.istore_n 2, 1) := by decide +kernel
theorem dX1_temperAt_20 : decode cX1_temperAt 20 = .ok (.iconst 2, 1) := by decide +kernel
theorem dX1_temperAt_21 : decode cX1_temperAt 21 = .ok (.iload_n 2, 1) := by decide +kernel
theorem dX1_temperAt_22 : decode cX1_temperAt 22 = .ok (.imul, 1) := by decide +kernel
theorem dX1_temperAt_23 : decode cX1_temperAt 23 = .ok (.iload_n 1, 1) := by decide +kernel
theorem dX1_temperAt_24 : decode cX1_temperAt 24 = .ok (.iconst 2, 1) := by decide +kernel
theorem dX1_temperAt_25 : decode cX1_temperAt 25 = .ok (.irem, 1) := by decide +kernel
theorem dX1_temperAt_26 : decode cX1_temperAt 26 = .ok (.iadd, 1) := by decide +kernel
theorem dX1_temperAt_27 : decode cX1_temperAt 27 = .ok (.ireturn, 1) := by decide +kernel
theorem dX1_temperNow_0 : decode cX1_temperNow 0 = .ok (.iload_n 1, 1) := by decide +kernel
theorem dX1_temperNow_1 : decode cX1_temperNow 1 = .ok (.iload_n 2, 1) := by decide +kernel
theorem dX1_temperNow_2 : decode cX1_temperNow 2 = .ok (.invokestatic 250, 3) := by decide +kernel
theorem dX1_temperNow_5 : decode cX1_temperNow 5 = .ok (.istore_n 3, 1) := by decide +kernel
theorem dX1_temperNow_6 : decode cX1_temperNow 6 = .ok (.iload_n 3, 1) := by decide +kernel
theorem dX1_temperNow_7 : decode cX1_temperNow 7 = .ok (.ifCond .lt 21, 3) := by decide +kernel
theorem dX1_temperNow_10 : decode cX1_temperNow 10 = .ok (.iload_n 3, 1) := by decide +kernel
theorem dX1_temperNow_11 : decode cX1_temperNow 11 = .ok (.aload_n 0, 1) := by decide +kernel
theorem dX1_temperNow_12 : decode cX1_temperNow 12 = .ok (.getfield 53, 3) := by decide +kernel
theorem dX1_temperNow_15 : decode cX1_temperNow 15 = .ok (.arraylength, 1) := by decide +kernel
theorem dX1_temperNow_16 : decode cX1_temperNow 16 = .ok (.if_icmp .ge 12, 3) := by decide +kernel
theorem dX1_temperNow_19 : decode cX1_temperNow 19 = .ok (.aload_n 0, 1) := by decide +kernel
theorem dX1_temperNow_20 : decode cX1_temperNow 20 = .ok (.getfield 53, 3) := by decide +kernel
theorem dX1_temperNow_23 : decode cX1_temperNow 23 = .ok (.iload_n 3, 1) := by decide +kernel
theorem dX1_temperNow_24 : decode cX1_temperNow 24 = .ok (.iaload, 1) := by decide +kernel
theorem dX1_temperNow_25 : decode cX1_temperNow 25 = .ok (.goto 4, 3) := by decide +kernel
theorem dX1_temperNow_28 : decode cX1_temperNow 28 = .ok (.iconst 0, 1) := by decide +kernel
theorem dX1_temperNow_29 : decode cX1_temperNow 29 = .ok (.ireturn, 1) := by decide +kernel
theorem dX1_layChanged_0 : decode cX1_layChanged 0 = .ok (.aload_n 0, 1) := by decide +kernel
theorem dX1_layChanged_1 : decode cX1_layChanged 1 = .ok (.getfield 34, 3) := by decide +kernel
theorem dX1_layChanged_4 : decode cX1_layChanged 4 = .ok (.iconst 0, 1) := by decide +kernel
theorem dX1_layChanged_5 : decode cX1_layChanged 5 = .ok (.iaload, 1) := by decide +kernel
theorem dX1_layChanged_6 : decode cX1_layChanged 6 = .ok (.istore_n 3, 1) := by decide +kernel
theorem dX1_layChanged_7 : decode cX1_layChanged 7 = .ok (.iload_n 3, 1) := by decide +kernel
theorem dX1_layChanged_8 : decode cX1_layChanged 8 = .ok (.aload_n 0, 1) := by decide +kernel
theorem dX1_layChanged_9 : decode cX1_layChanged 9 = .ok (.getfield 37, 3) := by decide +kernel
theorem dX1_layChanged_12 : decode cX1_layChanged 12 = .ok (.iconst 0, 1) := by decide +kernel
theorem dX1_layChanged_13 : decode cX1_layChanged 13 = .ok (.iaload, 1) := by decide +kernel
theorem dX1_layChanged_14 : decode cX1_layChanged 14 = .ok (.if_icmp .gt 182, 3) := by decide +kernel
theorem dX1_layChanged_17 : decode cX1_layChanged 17 = .ok (.iload_n 2, 1) := by decide +kernel
theorem dX1_layChanged_18 : decode cX1_layChanged 18 = .ok (.iload_n 3, 1) := by decide +kernel
theorem dX1_layChanged_19 : decode cX1_layChanged 19 = .ok (.aload_n 0, 1) := by decide +kernel
theorem dX1_layChanged_20 : decode cX1_layChanged 20 = .ok (.iload_n 1, 1) := by decide +kernel
theorem dX1_layChanged_21 : decode cX1_layChanged 21 = .ok (.iconst 0, 1) := by decide +kernel
theorem dX1_layChanged_22 : decode cX1_layChanged 22 = .ok (.invokevirtual 247, 3) := by decide +kernel
theorem dX1_layChanged_25 : decode cX1_layChanged 25 = .ok (.isub, 1) := by decide +kernel
theorem dX1_layChanged_26 : decode cX1_layChanged 26 = .ok (.invokestatic 253, 3) := by decide +kernel
theorem dX1_layChanged_29 : decode cX1_layChanged 29 = .ok (.isub, 1) := by decide +kernel
theorem dX1_layChanged_30 : decode cX1_layChanged 30 = .ok (.istore 4, 2) := by decide +kernel
theorem dX1_layChanged_32 : decode cX1_layChanged 32 = .ok (.aload_n 0, 1) := by decide +kernel
theorem dX1_layChanged_33 : decode cX1_layChanged 33 = .ok (.getfield 34, 3) := by decide +kernel
theorem dX1_layChanged_36 : decode cX1_layChanged 36 = .ok (.iconst 1, 1) := by decide +kernel
theorem dX1_layChanged_37 : decode cX1_layChanged 37 = .ok (.iaload, 1) := by decide +kernel
theorem dX1_layChanged_38 : decode cX1_layChanged 38 = .ok (.istore 5, 2) := by decide +kernel
theorem dX1_layChanged_40 : decode cX1_layChanged 40 = .ok (.iload 5, 2) := by decide +kernel
theorem dX1_layChanged_42 : decode cX1_layChanged 42 = .ok (.aload_n 0, 1) := by decide +kernel
theorem dX1_layChanged_43 : decode cX1_layChanged 43 = .ok (.getfield 37, 3) := by decide +kernel
theorem dX1_layChanged_46 : decode cX1_layChanged 46 = .ok (.iconst 1, 1) := by decide +kernel
theorem dX1_layChanged_47 : decode cX1_layChanged 47 = .ok (.iaload, 1) := by decide +kernel
theorem dX1_layChanged_48 : decode cX1_layChanged 48 = .ok (.if_icmp .gt 142, 3) := by decide +kernel
theorem dX1_layChanged_51 : decode cX1_layChanged 51 = .ok (.iload 4, 2) := by decide +kernel
theorem dX1_layChanged_53 : decode cX1_layChanged 53 = .ok (.ifCond .lt 137, 3) := by decide +kernel
theorem dX1_layChanged_56 : decode cX1_layChanged 56 = .ok (.iload 4, 2) := by decide +kernel
theorem dX1_layChanged_58 : decode cX1_layChanged 58 = .ok (.iload 5, 2) := by decide +kernel
theorem dX1_layChanged_60 : decode cX1_layChanged 60 = .ok (.aload_n 0, 1) := by decide +kernel
theorem dX1_layChanged_61 : decode cX1_layChanged 61 = .ok (.iload_n 1, 1) := by decide +kernel
theorem dX1_layChanged_62 : decode cX1_layChanged 62 = .ok (.iconst 1, 1) := by decide +kernel
theorem dX1_layChanged_63 : decode cX1_layChanged 63 = .ok (.invokevirtual 247, 3) := by decide +kernel
theorem dX1_layChanged_66 : decode cX1_layChanged 66 = .ok (.isub, 1) := by decide +kernel
theorem dX1_layChanged_67 : decode cX1_layChanged 67 = .ok (.invokestatic 253, 3) := by decide +kernel
theorem dX1_layChanged_70 : decode cX1_layChanged 70 = .ok (.isub, 1) := by decide +kernel
theorem dX1_layChanged_71 : decode cX1_layChanged 71 = .ok (.istore 6, 2) := by decide +kernel
theorem dX1_layChanged_73 : decode cX1_layChanged 73 = .ok (.aload_n 0, 1) := by decide +kernel
theorem dX1_layChanged_74 : decode cX1_layChanged 74 = .ok (.getfield 34, 3) := by decide +kernel
theorem dX1_layChanged_77 : decode cX1_layChanged 77 = .ok (.iconst 2, 1) := by decide +kernel
theorem dX1_layChanged_78 : decode cX1_layChanged 78 = .ok (.iaload, 1) := by decide +kernel
theorem dX1_layChanged_79 : decode cX1_layChanged 79 = .ok (.istore 7, 2) := by decide +kernel
theorem dX1_layChanged_81 : decode cX1_layChanged 81 = .ok (.iload 7, 2) := by decide +kernel
theorem dX1_layChanged_83 : decode cX1_layChanged 83 = .ok (.aload_n 0, 1) := by decide +kernel
theorem dX1_layChanged_84 : decode cX1_layChanged 84 = .ok (.getfield 37, 3) := by decide +kernel
theorem dX1_layChanged_87 : decode cX1_layChanged 87 = .ok (.iconst 2, 1) := by decide +kernel
theorem dX1_layChanged_88 : decode cX1_layChanged 88 = .ok (.iaload, 1) := by decide +kernel
theorem dX1_layChanged_89 : decode cX1_layChanged 89 = .ok (.if_icmp .gt 95, 3) := by decide +kernel
theorem dX1_layChanged_92 : decode cX1_layChanged 92 = .ok (.iload 6, 2) := by decide +kernel
theorem dX1_layChanged_94 : decode cX1_layChanged 94 = .ok (.ifCond .lt 90, 3) := by decide +kernel
theorem dX1_layChanged_97 : decode cX1_layChanged 97 = .ok (.iload 6, 2) := by decide +kernel
theorem dX1_layChanged_99 : decode cX1_layChanged 99 = .ok (.iload 7, 2) := by decide +kernel
theorem dX1_layChanged_101 : decode cX1_layChanged 101 = .ok (.aload_n 0, 1) := by decide +kernel
theorem dX1_layChanged_102 : decode cX1_layChanged 102 = .ok (.iload_n 1, 1) := by decide +kernel
theorem dX1_layChanged_103 : decode cX1_layChanged 103 = .ok (.iconst 2, 1) := by decide +kernel
theorem dX1_layChanged_104 : decode cX1_layChanged 104 = .ok (.invokevirtual 247, 3) := by decide +kernel
theorem dX1_layChanged_107 : decode cX1_layChanged 107 = .ok (.isub, 1) := by decide +kernel
theorem dX1_layChanged_108 : decode cX1_layChanged 108 = .ok (.invokestatic 253, 3) := by decide +kernel
theorem dX1_layChanged_111 : decode cX1_layChanged 111 = .ok (.isub, 1) := by decide +kernel
theorem dX1_layChanged_112 : decode cX1_layChanged 112 = .ok (.istore 8, 2) := by decide +kernel
theorem dX1_layChanged_114 : decode cX1_layChanged 114 = .ok (.aload_n 0, 1) := by decide +kernel
theorem dX1_layChanged_115 : decode cX1_layChanged 115 = .ok (.iload_n 1, 1) := by decide +kernel
theorem dX1_layChanged_116 : decode cX1_layChanged 116 = .ok (.iconst 3, 1) := by decide +kernel
theorem dX1_layChanged_117 : decode cX1_layChanged 117 = .ok (.invokevirtual 247, 3) := by decide +kernel
theorem dX1_layChanged_120 : decode cX1_layChanged 120 = .ok (.istore 9, 2) := by decide +kernel
theorem dX1_layChanged_122 : decode cX1_layChanged 122 = .ok (.aload_n 0, 1) := by decide +kernel
theorem dX1_layChanged_123 : decode cX1_layChanged 123 = .ok (.iload_n 1, 1) := by decide +kernel
theorem dX1_layChanged_124 : decode cX1_layChanged 124 = .ok (.iconst 0, 1) := by decide +kernel
theorem dX1_layChanged_125 : decode cX1_layChanged 125 = .ok (.iload_n 3, 1) := by decide +kernel
theorem dX1_layChanged_126 : decode cX1_layChanged 126 = .ok (.invokevirtual 256, 3) := by decide +kernel
theorem dX1_layChanged_129 : decode cX1_layChanged 129 = .ok (.aload_n 0, 1) := by decide +kernel
theorem dX1_layChanged_130 : decode cX1_layChanged 130 = .ok (.iload_n 1, 1) := by decide +kernel
theorem dX1_layChanged_131 : decode cX1_layChanged 131 = .ok (.iconst 1, 1) := by decide +kernel
theorem dX1_layChanged_132 : decode cX1_layChanged 132 = .ok (.iload 5, 2) := by decide +kernel
theorem dX1_layChanged_134 : decode cX1_layChanged 134 = .ok (.invokevirtual 256, 3) := by decide +kernel
theorem dX1_layChanged_137 : decode cX1_layChanged 137 = .ok (.aload_n 0, 1) := by decide +kernel
theorem dX1_layChanged_138 : decode cX1_layChanged 138 = .ok (.iload_n 1, 1) := by decide +kernel
theorem dX1_layChanged_139 : decode cX1_layChanged 139 = .ok (.iconst 2, 1) := by decide +kernel
theorem dX1_layChanged_140 : decode cX1_layChanged 140 = .ok (.iload 7, 2) := by decide +kernel
theorem dX1_layChanged_142 : decode cX1_layChanged 142 = .ok (.invokevirtual 256, 3) := by decide +kernel
theorem dX1_layChanged_145 : decode cX1_layChanged 145 = .ok (.iload 8, 2) := by decide +kernel
theorem dX1_layChanged_147 : decode cX1_layChanged 147 = .ok (.ifCond .lt 31, 3) := by decide +kernel
theorem dX1_layChanged_150 : decode cX1_layChanged 150 = .ok (.aload_n 0, 1) := by decide +kernel
theorem dX1_layChanged_151 : decode cX1_layChanged 151 = .ok (.iload_n 1, 1) := by decide +kernel
theorem dX1_layChanged_152 : decode cX1_layChanged 152 = .ok (.iload 9, 2) := by decide +kernel
theorem dX1_layChanged_154 : decode cX1_layChanged 154 = .ok (.iload 8, 2) := by decide +kernel
theorem dX1_layChanged_156 : decode cX1_layChanged 156 = .ok (.isub, 1) := by decide +kernel
theorem dX1_layChanged_157 : decode cX1_layChanged 157 = .ok (.invokevirtual 260, 3) := by decide +kernel
theorem dX1_layChanged_160 : decode cX1_layChanged 160 = .ok (.ifCond .ne 16, 3) := by decide +kernel
theorem dX1_layChanged_163 : decode cX1_layChanged 163 = .ok (.aload_n 0, 1) := by decide +kernel
theorem dX1_layChanged_164 : decode cX1_layChanged 164 = .ok (.iload_n 1, 1) := by decide +kernel
theorem dX1_layChanged_165 : decode cX1_layChanged 165 = .ok (.iload 9, 2) := by decide +kernel
theorem dX1_layChanged_167 : decode cX1_layChanged 167 = .ok (.iload 8, 2) := by decide +kernel
theorem dX1_layChanged_169 : decode cX1_layChanged 169 = .ok (.iadd, 1) := by decide +kernel
theorem dX1_layChanged_170 : decode cX1_layChanged 170 = .ok (.invokevirtual 260, 3) := by decide +kernel
theorem dX1_layChanged_173 : decode cX1_layChanged 173 = .ok (.ifCond .eq 5, 3) := by decide +kernel
theorem dX1_layChanged_176 : decode cX1_layChanged 176 = .ok (.iconst 1, 1) := by decide +kernel
theorem dX1_layChanged_177 : decode cX1_layChanged 177 = .ok (.ireturn, 1) := by decide +kernel
theorem dX1_layChanged_178 : decode cX1_layChanged 178 = .ok (.iinc 7 1, 3) := by decide +kernel
theorem dX1_layChanged_181 : decode cX1_layChanged 181 = .ok (.goto (-100), 3) := by decide +kernel
theorem dX1_layChanged_184 : decode cX1_layChanged 184 = .ok (.iinc 5 1, 3) := by decide +kernel
theorem dX1_layChanged_187 : decode cX1_layChanged 187 = .ok (.goto (-147), 3) := by decide +kernel
theorem dX1_layChanged_190 : decode cX1_layChanged 190 = .ok (.iinc 3 1, 3) := by decide +kernel
theorem dX1_layChanged_193 : decode cX1_layChanged 193 = .ok (.goto (-186), 3) := by decide +kernel
theorem dX1_layChanged_196 : decode cX1_layChanged 196 = .ok (.iconst 0, 1) := by decide +kernel
theorem dX1_layChanged_197 : decode cX1_layChanged 197 = .ok (.ireturn, 1) := by decide +kernel
theorem dX1_tryTemper_0 : decode cX1_tryTemper 0 = .ok (.iload_n 1, 1) := by decide +kernel
theorem dX1_tryTemper_1 : decode cX1_tryTemper 1 = .ok (.iload_n 2, 1) := by decide +kernel
theorem dX1_tryTemper_2 : decode cX1_tryTemper 2 = .ok (.invokestatic 250, 3) := by decide +kernel
theorem dX1_tryTemper_5 : decode cX1_tryTemper 5 = .ok (.istore 4, 2) := by decide +kernel
theorem dX1_tryTemper_7 : decode cX1_tryTemper 7 = .ok (.iload 4, 2) := by decide +kernel
theorem dX1_tryTemper_9 : decode cX1_tryTemper 9 = .ok (.ifCond .lt 21, 3) := by decide +kernel
theorem dX1_tryTemper_12 : decode cX1_tryTemper 12 = .ok (.iload 4, 2) := by decide +kernel
theorem dX1_tryTemper_14 : decode cX1_tryTemper 14 = .ok (.aload_n 0, 1) := by decide +kernel
theorem dX1_tryTemper_15 : decode cX1_tryTemper 15 = .ok (.getfield 31, 3) := by decide +kernel
theorem dX1_tryTemper_18 : decode cX1_tryTemper 18 = .ok (.arraylength, 1) := by decide +kernel
theorem dX1_tryTemper_19 : decode cX1_tryTemper 19 = .ok (.if_icmp .ge 11, 3) := by decide +kernel
theorem dX1_tryTemper_22 : decode cX1_tryTemper 22 = .ok (.aload_n 0, 1) := by decide +kernel
theorem dX1_tryTemper_23 : decode cX1_tryTemper 23 = .ok (.getfield 31, 3) := by decide +kernel
theorem dX1_tryTemper_26 : decode cX1_tryTemper 26 = .ok (.iload 4, 2) := by decide +kernel
theorem dX1_tryTemper_28 : decode cX1_tryTemper 28 = .ok (.iload_n 3, 1) := by decide +kernel
theorem dX1_tryTemper_29 : decode cX1_tryTemper 29 = .ok (.iastore, 1) := by decide +kernel
theorem dX1_tryTemper_30 : decode cX1_tryTemper 30 = .ok (.return_, 1) := by decide +kernel
theorem dX1_layIfLong_0 : decode cX1_layIfLong 0 = .ok (.iload_n 2, 1) := by decide +kernel
theorem dX1_layIfLong_1 : decode cX1_layIfLong 1 = .ok (.aload_n 0, 1) := by decide +kernel
theorem dX1_layIfLong_2 : decode cX1_layIfLong 2 = .ok (.getfield 34, 3) := by decide +kernel
theorem dX1_layIfLong_5 : decode cX1_layIfLong 5 = .ok (.iconst 3, 1) := by decide +kernel
theorem dX1_layIfLong_6 : decode cX1_layIfLong 6 = .ok (.iaload, 1) := by decide +kernel
theorem dX1_layIfLong_7 : decode cX1_layIfLong 7 = .ok (.if_icmp .lt 13, 3) := by decide +kernel
theorem dX1_layIfLong_10 : decode cX1_layIfLong 10 = .ok (.iload_n 2, 1) := by decide +kernel
theorem dX1_layIfLong_11 : decode cX1_layIfLong 11 = .ok (.aload_n 0, 1) := by decide +kernel
theorem dX1_layIfLong_12 : decode cX1_layIfLong 12 = .ok (.getfield 37, 3) := by decide +kernel
theorem dX1_layIfLong_15 : decode cX1_layIfLong 15 = .ok (.iconst 3, 1) := by decide +kernel
theorem dX1_layIfLong_16 : decode cX1_layIfLong 16 = .ok (.iaload, 1) := by decide +kernel
theorem dX1_layIfLong_17 : decode cX1_layIfLong 17 = .ok (.if_icmp .le 5, 3) := by decide +kernel
theorem dX1_layIfLong_20 : decode cX1_layIfLong 20 = .ok (.iconst 0, 1) := by decide +kernel
theorem dX1_layIfLong_21 : decode cX1_layIfLong 21 = .ok (.ireturn, 1) := by decide +kernel
theorem dX1_layIfLong_22 : decode cX1_layIfLong 22 = .ok (.aload_n 0, 1) := by decide +kernel
theorem dX1_layIfLong_23 : decode cX1_layIfLong 23 = .ok (.iload_n 1, 1) := by decide +kernel
theorem dX1_layIfLong_24 : decode cX1_layIfLong 24 = .ok (.iconst 3, 1) := by decide +kernel
theorem dX1_layIfLong_25 : decode cX1_layIfLong 25 = .ok (.iload_n 2, 1) := by decide +kernel
theorem dX1_layIfLong_26 : decode cX1_layIfLong 26 = .ok (.invokevirtual 256, 3) := by decide +kernel
theorem dX1_layIfLong_29 : decode cX1_layIfLong 29 = .ok (.aload_n 0, 1) := by decide +kernel
theorem dX1_layIfLong_30 : decode cX1_layIfLong 30 = .ok (.getfield 61, 3) := by decide +kernel
theorem dX1_layIfLong_33 : decode cX1_layIfLong 33 = .ok (.getfield 149, 3) := by decide +kernel
theorem dX1_layIfLong_36 : decode cX1_layIfLong 36 = .ok (.iload_n 1, 1) := by decide +kernel
theorem dX1_layIfLong_37 : decode cX1_layIfLong 37 = .ok (.invokevirtual 153, 3) := by decide +kernel
theorem dX1_layIfLong_40 : decode cX1_layIfLong 40 = .ok (.aload_n 0, 1) := by decide +kernel
theorem dX1_layIfLong_41 : decode cX1_layIfLong 41 = .ok (.getfield 61, 3) := by decide +kernel
theorem dX1_layIfLong_44 : decode cX1_layIfLong 44 = .ok (.getfield 149, 3) := by decide +kernel
theorem dX1_layIfLong_47 : decode cX1_layIfLong 47 = .ok (.aload_n 0, 1) := by decide +kernel
theorem dX1_layIfLong_48 : decode cX1_layIfLong 48 = .ok (.getfield 31, 3) := by decide +kernel
theorem dX1_layIfLong_51 : decode cX1_layIfLong 51 = .ok (.aload_n 0, 1) := by decide +kernel
theorem dX1_layIfLong_52 : decode cX1_layIfLong 52 = .ok (.getfield 225, 3) := by decide +kernel
theorem dX1_layIfLong_55 : decode cX1_layIfLong 55 = .ok (.invokevirtual 189, 3) := by decide +kernel
theorem dX1_layIfLong_58 : decode cX1_layIfLong 58 = .ok (.aload_n 0, 1) := by decide +kernel
theorem dX1_layIfLong_59 : decode cX1_layIfLong 59 = .ok (.getfield 225, 3) := by decide +kernel
theorem dX1_layIfLong_62 : decode cX1_layIfLong 62 = .ok (.if_icmp .eq 5, 3) := by decide +kernel
theorem dX1_layIfLong_65 : decode cX1_layIfLong 65 = .ok (.iconst 0, 1) := by decide +kernel
theorem dX1_layIfLong_66 : decode cX1_layIfLong 66 = .ok (.ireturn, 1) := by decide +kernel
theorem dX1_layIfLong_67 : decode cX1_layIfLong 67 = .ok (.iconst 0, 1) := by decide +kernel
theorem dX1_layIfLong_68 : decode cX1_layIfLong 68 = .ok (.istore_n 3, 1) := by decide +kernel
theorem dX1_layIfLong_69 : decode cX1_layIfLong 69 = .ok (.iload_n 3, 1) := by decide +kernel
theorem dX1_layIfLong_70 : decode cX1_layIfLong 70 = .ok (.iconst 4, 1) := by decide +kernel
theorem dX1_layIfLong_71 : decode cX1_layIfLong 71 = .ok (.if_icmp .ge 46, 3) := by decide +kernel
theorem dX1_layIfLong_74 : decode cX1_layIfLong 74 = .ok (.iload_n 1, 1) := by decide +kernel
theorem dX1_layIfLong_75 : decode cX1_layIfLong 75 = .ok (.iload_n 3, 1) := by decide +kernel
theorem dX1_layIfLong_76 : decode cX1_layIfLong 76 = .ok (.invokestatic 250, 3) := by decide +kernel
theorem dX1_layIfLong_79 : decode cX1_layIfLong 79 = .ok (.istore 4, 2) := by decide +kernel
theorem dX1_layIfLong_81 : decode cX1_layIfLong 81 = .ok (.aload_n 0, 1) := by decide +kernel
theorem dX1_layIfLong_82 : decode cX1_layIfLong 82 = .ok (.iload 4, 2) := by decide +kernel
theorem dX1_layIfLong_84 : decode cX1_layIfLong 84 = .ok (.ifCond .lt 23, 3) := by decide +kernel
theorem dX1_layIfLong_87 : decode cX1_layIfLong 87 = .ok (.iload 4, 2) := by decide +kernel
theorem dX1_layIfLong_89 : decode cX1_layIfLong 89 = .ok (.aload_n 0, 1) := by decide +kernel
theorem dX1_layIfLong_90 : decode cX1_layIfLong 90 = .ok (.getfield 31, 3) := by decide +kernel
theorem dX1_layIfLong_93 : decode cX1_layIfLong 93 = .ok (.arraylength, 1) := by decide +kernel
theorem dX1_layIfLong_94 : decode cX1_layIfLong 94 = .ok (.if_icmp .ge 13, 3) := by decide +kernel
theorem dX1_layIfLong_97 : decode cX1_layIfLong 97 = .ok (.aload_n 0, 1) := by decide +kernel
theorem dX1_layIfLong_98 : decode cX1_layIfLong 98 = .ok (.getfield 31, 3) := by decide +kernel
theorem dX1_layIfLong_101 : decode cX1_layIfLong 101 = .ok (.iload 4, 2) := by decide +kernel
theorem dX1_layIfLong_103 : decode cX1_layIfLong 103 = .ok (.iaload, 1) := by decide +kernel
theorem dX1_layIfLong_104 : decode cX1_layIfLong 104 = .ok (.goto 4, 3) := by decide +kernel
theorem dX1_layIfLong_107 : decode cX1_layIfLong 107 = .ok (.iconst 0, 1) := by decide +kernel
theorem dX1_layIfLong_108 : decode cX1_layIfLong 108 = .ok (.invokevirtual 82, 3) := by decide +kernel
theorem dX1_layIfLong_111 : decode cX1_layIfLong 111 = .ok (.iinc 3 1, 3) := by decide +kernel
theorem dX1_layIfLong_114 : decode cX1_layIfLong 114 = .ok (.goto (-45), 3) := by decide +kernel
theorem dX1_layIfLong_117 : decode cX1_layIfLong 117 = .ok (.iconst 1, 1) := by decide +kernel
theorem dX1_layIfLong_118 : decode cX1_layIfLong 118 = .ok (.ireturn, 1) := by decide +kernel
theorem dX2_init_0 : decode cX2_init 0 = .ok (.aload_n 0, 1) := by decide +kernel
theorem dX2_init_1 : decode cX2_init 1 = .ok (.invokespecial 3, 3) := by decide +kernel
theorem dX2_init_4 : decode cX2_init 4 = .ok (.aload_n 0, 1) := by decide +kernel
theorem dX2_init_5 : decode cX2_init 5 = .ok (.sipush 320, 3) := by decide +kernel
theorem dX2_init_8 : decode cX2_init 8 = .ok (.newarray .int, 2) := by decide +kernel
theorem dX2_init_10 : decode cX2_init 10 = .ok (.putfield 9, 3) := by decide +kernel
theorem dX2_init_13 : decode cX2_init 13 = .ok (.aload_n 0, 1) := by decide +kernel
theorem dX2_init_14 : decode cX2_init 14 = .ok (.bipush 32, 2) := by decide +kernel
theorem dX2_init_16 : decode cX2_init 16 = .ok (.newarray .int, 2) := by decide +kernel
theorem dX2_init_18 : decode cX2_init 18 = .ok (.putfield 15, 3) := by decide +kernel
theorem dX2_init_21 : decode cX2_init 21 = .ok (.return_, 1) := by decide +kernel
theorem dX2_clear_0 : decode cX2_clear 0 = .ok (.aload_n 0, 1) := by decide +kernel
theorem dX2_clear_1 : decode cX2_clear 1 = .ok (.iconst 0, 1) := by decide +kernel
theorem dX2_clear_2 : decode cX2_clear 2 = .ok (.putfield 18, 3) := by decide +kernel
theorem dX2_clear_5 : decode cX2_clear 5 = .ok (.aload_n 0, 1) := by decide +kernel
theorem dX2_clear_6 : decode cX2_clear 6 = .ok (.iconst 0, 1) := by decide +kernel
theorem dX2_clear_7 : decode cX2_clear 7 = .ok (.putfield 22, 3) := by decide +kernel
theorem dX2_clear_10 : decode cX2_clear 10 = .ok (.return_, 1) := by decide +kernel
theorem dX2_isTold_0 : decode cX2_isTold 0 = .ok (.aload_n 0, 1) := by decide +kernel
theorem dX2_isTold_1 : decode cX2_isTold 1 = .ok (.getfield 18, 3) := by decide +kernel
theorem dX2_isTold_4 : decode cX2_isTold 4 = .ok (.ifCond .le 7, 3) := by decide +kernel
theorem dX2_isTold_7 : decode cX2_isTold 7 = .ok (.iconst 1, 1) := by decide +kernel
theorem dX2_isTold_8 : decode cX2_isTold 8 = .ok (.goto 4, 3) := by decide +kernel
theorem dX2_isTold_11 : decode cX2_isTold 11 = .ok (.iconst 0, 1) := by decide +kernel
theorem dX2_isTold_12 : decode cX2_isTold 12 = .ok (.ireturn, 1) := by decide +kernel
theorem dX2_addNumber_0 : decode cX2_addNumber 0 = .ok (.aload_n 0, 1) := by decide +kernel
theorem dX2_addNumber_1 : decode cX2_addNumber 1 = .ok (.iload_n 1, 1) := by decide +kernel
theorem dX2_addNumber_2 : decode cX2_addNumber 2 = .ok (.invokevirtual 25, 3) := by decide +kernel
theorem dX2_addNumber_5 : decode cX2_addNumber 5 = .ok (.return_, 1) := by decide +kernel
theorem dX2_addKnown_0 : decode cX2_addKnown 0 = .ok (.aload_n 0, 1) := by decide +kernel
theorem dX2_addKnown_1 : decode cX2_addKnown 1 = .ok (.iconst (-1), 1) := by decide +kernel
theorem dX2_addKnown_2 : decode cX2_addKnown 2 = .ok (.iload_n 1, 1) := by decide +kernel
theorem dX2_addKnown_3 : decode cX2_addKnown 3 = .ok (.isub, 1) := by decide +kernel
theorem dX2_addKnown_4 : decode cX2_addKnown 4 = .ok (.invokevirtual 25, 3) := by decide +kernel
theorem dX2_addKnown_7 : decode cX2_addKnown 7 = .ok (.return_, 1) := by decide +kernel
theorem dX2_addOperator_0 : decode cX2_addOperator 0 = .ok (.aload_n 0, 1) := by decide +kernel
theorem dX2_addOperator_1 : decode cX2_addOperator 1 = .ok (.iload_n 1, 1) := by decide +kernel
theorem dX2_addOperator_2 : decode cX2_addOperator 2 = .ok (.ineg, 1) := by decide +kernel
theorem dX2_addOperator_3 : decode cX2_addOperator 3 = .ok (.invokevirtual 25, 3) := by decide +kernel
theorem dX2_addOperator_6 : decode cX2_addOperator 6 = .ok (.return_, 1) := by decide +kernel
theorem dX2_add_0 : decode cX2_add 0 = .ok (.aload_n 0, 1) := by decide +kernel
theorem dX2_add_1 : decode cX2_add 1 = .ok (.getfield 18, 3) := by decide +kernel
theorem dX2_add_4 : decode cX2_add 4 = .ok (.ifCond .lt 35, 3) := by decide +kernel
theorem dX2_add_7 : decode cX2_add 7 = .ok (.aload_n 0, 1) := by decide +kernel
theorem dX2_add_8 : decode cX2_add 8 = .ok (.getfield 18, 3) := by decide +kernel
theorem dX2_add_11 : decode cX2_add 11 = .ok (.aload_n 0, 1) := by decide +kernel
theorem dX2_add_12 : decode cX2_add 12 = .ok (.getfield 9, 3) := by decide +kernel
theorem dX2_add_15 : decode cX2_add 15 = .ok (.arraylength, 1) := by decide +kernel
theorem dX2_add_16 : decode cX2_add 16 = .ok (.if_icmp .ge 23, 3) := by decide +kernel
theorem dX2_add_19 : decode cX2_add 19 = .ok (.aload_n 0, 1) := by decide +kernel
theorem dX2_add_20 : decode cX2_add 20 = .ok (.getfield 9, 3) := by decide +kernel
theorem dX2_add_23 : decode cX2_add 23 = .ok (.aload_n 0, 1) := by decide +kernel
theorem dX2_add_24 : decode cX2_add 24 = .ok (.getfield 18, 3) := by decide +kernel
theorem dX2_add_27 : decode cX2_add 27 = .ok (.iload_n 1, 1) := by decide +kernel
theorem dX2_add_28 : decode cX2_add 28 = .ok (.iastore, 1) := by decide +kernel
theorem dX2_add_29 : decode cX2_add 29 = .ok (.aload_n 0, 1) := by decide +kernel
theorem dX2_add_30 : decode cX2_add 30 = .ok (.dup, 1) := by decide +kernel
theorem dX2_add_31 : decode cX2_add 31 = .ok (.getfield 18, 3) := by decide +kernel
theorem dX2_add_34 : decode cX2_add 34 = .ok (.iconst 1, 1) := by decide +kernel
theorem dX2_add_35 : decode cX2_add 35 = .ok (.iadd, 1) := by decide +kernel
theorem dX2_add_36 : decode cX2_add 36 = .ok (.putfield 18, 3) := by decide +kernel
theorem dX2_add_39 : decode cX2_add 39 = .ok (.return_, 1) := by decide +kernel
theorem dX2_asksFor_0 : decode cX2_asksFor 0 = .ok (.iconst 0, 1) := by decide +kernel
theorem dX2_asksFor_1 : decode cX2_asksFor 1 = .ok (.istore_n 2, 1) := by decide +kernel
theorem dX2_asksFor_2 : decode cX2_asksFor 2 = .ok (.iload_n 2, 1) := by decide +kernel
theorem dX2_asksFor_3 : decode cX2_asksFor 3 = .ok (.aload_n 0, 1) := by decide +kernel
theorem dX2_asksFor_4 : decode cX2_asksFor 4 = .ok (.getfield 18, 3) := by decide +kernel
theorem dX2_asksFor_7 : decode cX2_asksFor 7 = .ok (.if_icmp .ge 32, 3) := by decide +kernel
theorem dX2_asksFor_10 : decode cX2_asksFor 10 = .ok (.iload_n 2, 1) := by decide +kernel
theorem dX2_asksFor_11 : decode cX2_asksFor 11 = .ok (.aload_n 0, 1) := by decide +kernel
theorem dX2_asksFor_12 : decode cX2_asksFor 12 = .ok (.getfield 9, 3) := by decide +kernel
theorem dX2_asksFor_15 : decode cX2_asksFor 15 = .ok (.arraylength, 1) := by decide +kernel
theorem dX2_asksFor_16 : decode cX2_asksFor 16 = .ok (.if_icmp .ge 23, 3) := by decide +kernel
theorem dX2_asksFor_19 : decode cX2_asksFor 19 = .ok (.aload_n 0, 1) := by decide +kernel
theorem dX2_asksFor_20 : decode cX2_asksFor 20 = .ok (.getfield 9, 3) := by decide +kernel
theorem dX2_asksFor_23 : decode cX2_asksFor 23 = .ok (.iload_n 2, 1) := by decide +kernel
theorem dX2_asksFor_24 : decode cX2_asksFor 24 = .ok (.iaload, 1) := by decide +kernel
theorem dX2_asksFor_25 : decode cX2_asksFor 25 = .ok (.iconst (-1), 1) := by decide +kernel
theorem dX2_asksFor_26 : decode cX2_asksFor 26 = .ok (.iload_n 1, 1) := by decide +kernel
theorem dX2_asksFor_27 : decode cX2_asksFor 27 = .ok (.isub, 1) := by decide +kernel
theorem dX2_asksFor_28 : decode cX2_asksFor 28 = .ok (.if_icmp .ne 5, 3) := by decide +kernel
theorem dX2_asksFor_31 : decode cX2_asksFor 31 = .ok (.iconst 1, 1) := by decide +kernel
theorem dX2_asksFor_32 : decode cX2_asksFor 32 = .ok (.ireturn, 1) := by decide +kernel
theorem dX2_asksFor_33 : decode cX2_asksFor 33 = .ok (.iinc 2 1, 3) := by decide +kernel
theorem dX2_asksFor_36 : decode cX2_asksFor 36 = .ok (.goto (-34), 3) := by decide +kernel
theorem dX2_asksFor_39 : decode cX2_asksFor 39 = .ok (.iconst 0, 1) := by decide +kernel
theorem dX2_asksFor_40 : decode cX2_asksFor 40 = .ok (.ireturn, 1) := by decide +kernel
theorem dX2_answer_0 : decode cX2_answer 0 = .ok (.iconst 0, 1) := by decide +kernel
theorem dX2_answer_1 : decode cX2_answer 1 = .ok (.istore_n 3, 1) := by decide +kernel
theorem dX2_answer_2 : decode cX2_answer 2 = .ok (.iconst 0, 1) := by decide +kernel
theorem dX2_answer_3 : decode cX2_answer 3 = .ok (.istore 4, 2) := by decide +kernel
theorem dX2_answer_5 : decode cX2_answer 5 = .ok (.iload 4, 2) := by decide +kernel
theorem dX2_answer_7 : decode cX2_answer 7 = .ok (.aload_n 0, 1) := by decide +kernel
theorem dX2_answer_8 : decode cX2_answer 8 = .ok (.getfield 18, 3) := by decide +kernel
theorem dX2_answer_11 : decode cX2_answer 11 = .ok (.if_icmp .ge 163, 3) := by decide +kernel
theorem dX2_answer_14 : decode cX2_answer 14 = .ok (.iload 4, 2) := by decide +kernel
theorem dX2_answer_16 : decode cX2_answer 16 = .ok (.aload_n 0, 1) := by decide +kernel
theorem dX2_answer_17 : decode cX2_answer 17 = .ok (.getfield 9, 3) := by decide +kernel
theorem dX2_answer_20 : decode cX2_answer 20 = .ok (.arraylength, 1) := by decide +kernel
theorem dX2_answer_21 : decode cX2_answer 21 = .ok (.if_icmp .ge 153, 3) := by decide +kernel
theorem dX2_answer_24 : decode cX2_answer 24 = .ok (.aload_n 0, 1) := by decide +kernel
theorem dX2_answer_25 : decode cX2_answer 25 = .ok (.getfield 9, 3) := by decide +kernel
theorem dX2_answer_28 : decode cX2_answer 28 = .ok (.iload 4, 2) := by decide +kernel
theorem dX2_answer_30 : decode cX2_answer 30 = .ok (.iaload, 1) := by decide +kernel
theorem dX2_answer_31 : decode cX2_answer 31 = .ok (.istore 5, 2) := by decide +kernel
theorem dX2_answer_33 : decode cX2_answer 33 = .ok (.iload 5, 2) := by decide +kernel
theorem dX2_answer_35 : decode cX2_answer 35 = .ok (.bipush (-6), 2) := by decide +kernel
theorem dX2_answer_37 : decode cX2_answer 37 = .ok (.if_icmp .lt 51, 3) := by decide +kernel
theorem dX2_answer_40 : decode cX2_answer 40 = .ok (.iload_n 3, 1) := by decide +kernel
theorem dX2_answer_41 : decode cX2_answer 41 = .ok (.aload_n 0, 1) := by decide +kernel
theorem dX2_answer_42 : decode cX2_answer 42 = .ok (.getfield 15, 3) := by decide +kernel
theorem dX2_answer_45 : decode cX2_answer 45 = .ok (.arraylength, 1) := by decide +kernel
theorem dX2_answer_46 : decode cX2_answer 46 = .ok (.if_icmp .ge 12, 3) := by decide +kernel
theorem dX2_answer_49 : decode cX2_answer 49 = .ok (.iconst (-1), 1) := by decide +kernel
theorem dX2_answer_50 : decode cX2_answer 50 = .ok (.iload 5, 2) := by decide +kernel
theorem dX2_answer_52 : decode cX2_answer 52 = .ok (.isub, 1) := by decide +kernel
theorem dX2_answer_53 : decode cX2_answer 53 = .ok (.aload_n 1, 1) := by decide +kernel
theorem dX2_answer_54 : decode cX2_answer 54 = .ok (.arraylength, 1) := by decide +kernel
theorem dX2_answer_55 : decode cX2_answer 55 = .ok (.if_icmp .lt 5, 3) := by decide +kernel
theorem dX2_answer_58 : decode cX2_answer 58 = .ok (.iload_n 2, 1) := by decide +kernel
theorem dX2_answer_59 : decode cX2_answer 59 = .ok (.ireturn, 1) := by decide +kernel
theorem dX2_answer_60 : decode cX2_answer 60 = .ok (.aload_n 0, 1) := by decide +kernel
theorem dX2_answer_61 : decode cX2_answer 61 = .ok (.getfield 15, 3) := by decide +kernel
theorem dX2_answer_64 : decode cX2_answer 64 = .ok (.iload_n 3, 1) := by decide +kernel
theorem dX2_answer_65 : decode cX2_answer 65 = .ok (.iload 5, 2) := by decide +kernel
theorem dX2_answer_67 : decode cX2_answer 67 = .ok (.ifCond .lt 8, 3) := by decide +kernel
theorem dX2_answer_70 : decode cX2_answer 70 = .ok (.iload 5, 2) := by decide +kernel
theorem dX2_answer_72 : decode cX2_answer 72 = .ok (.goto 9, 3) := by decide +kernel
theorem dX2_answer_75 : decode cX2_answer 75 = .ok (.aload_n 1, 1) := by decide +kernel
theorem dX2_answer_76 : decode cX2_answer 76 = .ok (.iconst (-1), 1) := by decide +kernel
theorem dX2_answer_77 : decode cX2_answer 77 = .ok (.iload 5, 2) := by decide +kernel
theorem dX2_answer_79 : decode cX2_answer 79 = .ok (.isub, 1) := by decide +kernel
theorem dX2_answer_80 : decode cX2_answer 80 = .ok (.iaload, 1) := by decide +kernel
theorem dX2_answer_81 : decode cX2_answer 81 = .ok (.iastore, 1) := by decide +kernel
theorem dX2_answer_82 : decode cX2_answer 82 = .ok (.iinc 3 1, 3) := by decide +kernel
theorem dX2_answer_85 : decode cX2_answer 85 = .ok (.goto 83, 3) := by decide +kernel
theorem dX2_answer_88 : decode cX2_answer 88 = .ok (.iload 5, 2) := by decide +kernel
theorem dX2_answer_90 : decode cX2_answer 90 = .ok (.sipush (-273), 3) := by decide +kernel
theorem dX2_answer_93 : decode cX2_answer 93 = .ok (.if_icmp .ne 37, 3) := by decide +kernel
theorem dX2_answer_96 : decode cX2_answer 96 = .ok (.iload_n 3, 1) := by decide +kernel
theorem dX2_answer_97 : decode cX2_answer 97 = .ok (.iconst 1, 1) := by decide +kernel
theorem dX2_answer_98 : decode cX2_answer 98 = .ok (.if_icmp .ge 5, 3) := by decide +kernel
theorem dX2_answer_101 : decode cX2_answer 101 = .ok (.iload_n 2, 1) := by decide +kernel
theorem dX2_answer_102 : decode cX2_answer 102 = .ok (.ireturn, 1) := by decide +kernel
theorem dX2_answer_103 : decode cX2_answer 103 = .ok (.aload_n 0, 1) := by decide +kernel
theorem dX2_answer_104 : decode cX2_answer 104 = .ok (.getfield 15, 3) := by decide +kernel
theorem dX2_answer_107 : decode cX2_answer 107 = .ok (.iload_n 3, 1) := by decide +kernel
theorem dX2_answer_108 : decode cX2_answer 108 = .ok (.iconst 1, 1) := by decide +kernel
theorem dX2_answer_109 : decode cX2_answer 109 = .ok (.isub, 1) := by decide +kernel
theorem dX2_answer_110 : decode cX2_answer 110 = .ok (.aload_n 0, 1) := by decide +kernel
theorem dX2_answer_111 : decode cX2_answer 111 = .ok (.getfield 15, 3) := by decide +kernel
theorem dX2_answer_114 : decode cX2_answer 114 = .ok (.iload_n 3, 1) := by decide +kernel
theorem dX2_answer_115 : decode cX2_answer 115 = .ok (.iconst 1, 1) := by decide +kernel
theorem dX2_answer_116 : decode cX2_answer 116 = .ok (.isub, 1) := by decide +kernel
theorem dX2_answer_117 : decode cX2_answer 117 = .ok (.iaload, 1) := by decide +kernel
theorem dX2_answer_118 : decode cX2_answer 118 = .ok (.ifCond .ne 7, 3) := by decide +kernel
theorem dX2_answer_121 : decode cX2_answer 121 = .ok (.iconst 1, 1) := by decide +kernel
theorem dX2_answer_122 : decode cX2_answer 122 = .ok (.goto 4, 3) := by decide +kernel
theorem dX2_answer_125 : decode cX2_answer 125 = .ok (.iconst 0, 1) := by decide +kernel
theorem dX2_answer_126 : decode cX2_answer 126 = .ok (.iastore, 1) := by decide +kernel
theorem dX2_answer_127 : decode cX2_answer 127 = .ok (.goto 41, 3) := by decide +kernel
theorem dX2_answer_130 : decode cX2_answer 130 = .ok (.iload_n 3, 1) := by decide +kernel
theorem dX2_answer_131 : decode cX2_answer 131 = .ok (.iconst 2, 1) := by decide +kernel
theorem dX2_answer_132 : decode cX2_answer 132 = .ok (.if_icmp .ge 5, 3) := by decide +kernel
theorem dX2_answer_135 : decode cX2_answer 135 = .ok (.iload_n 2, 1) := by decide +kernel
theorem dX2_answer_136 : decode cX2_answer 136 = .ok (.ireturn, 1) := by decide +kernel
theorem dX2_answer_137 : decode cX2_answer 137 = .ok (.iinc 3 (-1), 3) := by decide +kernel
theorem dX2_answer_140 : decode cX2_answer 140 = .ok (.aload_n 0, 1) := by decide +kernel
theorem dX2_answer_141 : decode cX2_answer 141 = .ok (.getfield 15, 3) := by decide +kernel
theorem dX2_answer_144 : decode cX2_answer 144 = .ok (.iload_n 3, 1) := by decide +kernel
theorem dX2_answer_145 : decode cX2_answer 145 = .ok (.iconst 1, 1) := by decide +kernel
theorem dX2_answer_146 : decode cX2_answer 146 = .ok (.isub, 1) := by decide +kernel
theorem dX2_answer_147 : decode cX2_answer 147 = .ok (.iload 5, 2) := by decide +kernel
theorem dX2_answer_149 : decode cX2_answer 149 = .ok (.ineg, 1) := by decide +kernel
theorem dX2_answer_150 : decode cX2_answer 150 = .ok (.aload_n 0, 1) := by decide +kernel
theorem dX2_answer_151 : decode cX2_answer 151 = .ok (.getfield 15, 3) := by decide +kernel
theorem dX2_answer_154 : decode cX2_answer 154 = .ok (.iload_n 3, 1) := by decide +kernel
theorem dX2_answer_155 : decode cX2_answer 155 = .ok (.iconst 1, 1) := by decide +kernel
theorem dX2_answer_156 : decode cX2_answer 156 = .ok (.isub, 1) := by decide +kernel
theorem dX2_answer_157 : decode cX2_answer 157 = .ok (.iaload, 1) := by decide +kernel
theorem dX2_answer_158 : decode cX2_answer 158 = .ok (.aload_n 0, 1) := by decide +kernel
theorem dX2_answer_159 : decode cX2_answer 159 = .ok (.getfield 15, 3) := by decide +kernel
theorem dX2_answer_162 : decode cX2_answer 162 = .ok (.iload_n 3, 1) := by decide +kernel
theorem dX2_answer_163 : decode cX2_answer 163 = .ok (.iaload, 1) := by decide +kernel
theorem dX2_answer_164 : decode cX2_answer 164 = .ok (.invokestatic 29, 3) := by decide +kernel
theorem dX2_answer_167 : decode cX2_answer 167 = .ok (.iastore, 1) := by decide +kernel
theorem dX2_answer_168 : decode cX2_answer 168 = .ok (.iinc 4 1, 3) := by decide +kernel
theorem dX2_answer_171 : decode cX2_answer 171 = .ok (.goto (-166), 3) := by decide +kernel
theorem dX2_answer_174 : decode cX2_answer 174 = .ok (.iload_n 3, 1) := by decide +kernel
theorem dX2_answer_175 : decode cX2_answer 175 = .ok (.iconst 1, 1) := by decide +kernel
theorem dX2_answer_176 : decode cX2_answer 176 = .ok (.if_icmp .ne 12, 3) := by decide +kernel
theorem dX2_answer_179 : decode cX2_answer 179 = .ok (.aload_n 0, 1) := by decide +kernel
theorem dX2_answer_180 : decode cX2_answer 180 = .ok (.getfield 15, 3) := by decide +kernel
theorem dX2_answer_183 : decode cX2_answer 183 = .ok (.iconst 0, 1) := by decide +kernel
theorem dX2_answer_184 : decode cX2_answer 184 = .ok (.iaload, 1) := by decide +kernel
theorem dX2_answer_185 : decode cX2_answer 185 = .ok (.goto 4, 3) := by decide +kernel
theorem dX2_answer_188 : decode cX2_answer 188 = .ok (.iload_n 2, 1) := by decide +kernel
theorem dX2_answer_189 : decode cX2_answer 189 = .ok (.ireturn, 1) := by decide +kernel
theorem dX2_join_0 : decode cX2_join 0 = .ok (.iload_n 0, 1) := by decide +kernel
theorem dX2_join_1 : decode cX2_join 1 = .ok (.lookupswitch 188 #[(37, 115), (42, 99), (43, 91), (45, 95), (47, 103), (60, 127), (61, 149), (62, 138), (271, 174), (272, 160)], 91) := by decide +kernel
theorem dX2_join_92 : decode cX2_join 92 = .ok (.iload_n 1, 1) := by decide +kernel
theorem dX2_join_93 : decode cX2_join 93 = .ok (.iload_n 2, 1) := by decide +kernel
theorem dX2_join_94 : decode cX2_join 94 = .ok (.iadd, 1) := by decide +kernel
theorem dX2_join_95 : decode cX2_join 95 = .ok (.ireturn, 1) := by decide +kernel
theorem dX2_join_96 : decode cX2_join 96 = .ok (.iload_n 1, 1) := by decide +kernel
theorem dX2_join_97 : decode cX2_join 97 = .ok (.iload_n 2, 1) := by decide +kernel
theorem dX2_join_98 : decode cX2_join 98 = .ok (.isub, 1) := by decide +kernel
theorem dX2_join_99 : decode cX2_join 99 = .ok (.ireturn, 1) := by decide +kernel
theorem dX2_join_100 : decode cX2_join 100 = .ok (.iload_n 1, 1) := by decide +kernel
theorem dX2_join_101 : decode cX2_join 101 = .ok (.iload_n 2, 1) := by decide +kernel
theorem dX2_join_102 : decode cX2_join 102 = .ok (.imul, 1) := by decide +kernel
theorem dX2_join_103 : decode cX2_join 103 = .ok (.ireturn, 1) := by decide +kernel
theorem dX2_join_104 : decode cX2_join 104 = .ok (.iload_n 2, 1) := by decide +kernel
theorem dX2_join_105 : decode cX2_join 105 = .ok (.ifCond .ne 7, 3) := by decide +kernel
theorem dX2_join_108 : decode cX2_join 108 = .ok (.iconst 0, 1) := by decide +kernel
theorem dX2_join_109 : decode cX2_join 109 = .ok (.goto 6, 3) := by decide +kernel
theorem dX2_join_112 : decode cX2_join 112 = .ok (.iload_n 1, 1) := by decide +kernel
theorem dX2_join_113 : decode cX2_join 113 = .ok (.iload_n 2, 1) := by decide +kernel
theorem dX2_join_114 : decode cX2_join 114 = .ok (.idiv, 1) := by decide +kernel
theorem dX2_join_115 : decode cX2_join 115 = .ok (.ireturn, 1) := by decide +kernel
theorem dX2_join_116 : decode cX2_join 116 = .ok (.iload_n 2, 1) := by decide +kernel
theorem dX2_join_117 : decode cX2_join 117 = .ok (.ifCond .ne 7, 3) := by decide +kernel
theorem dX2_join_120 : decode cX2_join 120 = .ok (.iconst 0, 1) := by decide +kernel
theorem dX2_join_121 : decode cX2_join 121 = .ok (.goto 6, 3) := by decide +kernel
theorem dX2_join_124 : decode cX2_join 124 = .ok (.iload_n 1, 1) := by decide +kernel
theorem dX2_join_125 : decode cX2_join 125 = .ok (.iload_n 2, 1) := by decide +kernel
theorem dX2_join_126 : decode cX2_join 126 = .ok (.irem, 1) := by decide +kernel
theorem dX2_join_127 : decode cX2_join 127 = .ok (.ireturn, 1) := by decide +kernel
theorem dX2_join_128 : decode cX2_join 128 = .ok (.iload_n 1, 1) := by decide +kernel
theorem dX2_join_129 : decode cX2_join 129 = .ok (.iload_n 2, 1) := by decide +kernel
theorem dX2_join_130 : decode cX2_join 130 = .ok (.if_icmp .ge 7, 3) := by decide +kernel
theorem dX2_join_133 : decode cX2_join 133 = .ok (.iconst 1, 1) := by decide +kernel
theorem dX2_join_134 : decode cX2_join 134 = .ok (.goto 4, 3) := by decide +kernel
theorem dX2_join_137 : decode cX2_join 137 = .ok (.iconst 0, 1) := by decide +kernel
theorem dX2_join_138 : decode cX2_join 138 = .ok (.ireturn, 1) := by decide +kernel
theorem dX2_join_139 : decode cX2_join 139 = .ok (.iload_n 1, 1) := by decide +kernel
theorem dX2_join_140 : decode cX2_join 140 = .ok (.iload_n 2, 1) := by decide +kernel
theorem dX2_join_141 : decode cX2_join 141 = .ok (.if_icmp .le 7, 3) := by decide +kernel
theorem dX2_join_144 : decode cX2_join 144 = .ok (.iconst 1, 1) := by decide +kernel
theorem dX2_join_145 : decode cX2_join 145 = .ok (.goto 4, 3) := by decide +kernel
theorem dX2_join_148 : decode cX2_join 148 = .ok (.iconst 0, 1) := by decide +kernel
theorem dX2_join_149 : decode cX2_join 149 = .ok (.ireturn, 1) := by decide +kernel
theorem dX2_join_150 : decode cX2_join 150 = .ok (.iload_n 1, 1) := by decide +kernel
theorem dX2_join_151 : decode cX2_join 151 = .ok (.iload_n 2, 1) := by decide +kernel
theorem dX2_join_152 : decode cX2_join 152 = .ok (.if_icmp .ne 7, 3) := by decide +kernel
theorem dX2_join_155 : decode cX2_join 155 = .ok (.iconst 1, 1) := by decide +kernel
theorem dX2_join_156 : decode cX2_join 156 = .ok (.goto 4, 3) := by decide +kernel
theorem dX2_join_159 : decode cX2_join 159 = .ok (.iconst 0, 1) := by decide +kernel
theorem dX2_join_160 : decode cX2_join 160 = .ok (.ireturn, 1) := by decide +kernel
theorem dX2_join_161 : decode cX2_join 161 = .ok (.iload_n 1, 1) := by decide +kernel
theorem dX2_join_162 : decode cX2_join 162 = .ok (.ifCond .eq 11, 3) := by decide +kernel
theorem dX2_join_165 : decode cX2_join 165 = .ok (.iload_n 2, 1) := by decide +kernel
theorem dX2_join_166 : decode cX2_join 166 = .ok (.ifCond .eq 7, 3) := by decide +kernel
theorem dX2_join_169 : decode cX2_join 169 = .ok (.iconst 1, 1) := by decide +kernel
theorem dX2_join_170 : decode cX2_join 170 = .ok (.goto 4, 3) := by decide +kernel
theorem dX2_join_173 : decode cX2_join 173 = .ok (.iconst 0, 1) := by decide +kernel
theorem dX2_join_174 : decode cX2_join 174 = .ok (.ireturn, 1) := by decide +kernel
theorem dX2_join_175 : decode cX2_join 175 = .ok (.iload_n 1, 1) := by decide +kernel
theorem dX2_join_176 : decode cX2_join 176 = .ok (.ifCond .ne 7, 3) := by decide +kernel
theorem dX2_join_179 : decode cX2_join 179 = .ok (.iload_n 2, 1) := by decide +kernel
theorem dX2_join_180 : decode cX2_join 180 = .ok (.ifCond .eq 7, 3) := by decide +kernel
theorem dX2_join_183 : decode cX2_join 183 = .ok (.iconst 1, 1) := by decide +kernel
theorem dX2_join_184 : decode cX2_join 184 = .ok (.goto 4, 3) := by decide +kernel
theorem dX2_join_187 : decode cX2_join 187 = .ok (.iconst 0, 1) := by decide +kernel
theorem dX2_join_188 : decode cX2_join 188 = .ok (.ireturn, 1) := by decide +kernel
theorem dX2_join_189 : decode cX2_join 189 = .ok (.iconst 0, 1) := by decide +kernel
theorem dX2_join_190 : decode cX2_join 190 = .ok (.ireturn, 1) := by decide +kernel
theorem dX3_init_0 : decode cX3_init 0 = .ok (.aload_n 0, 1) := by decide +kernel
theorem dX3_init_1 : decode cX3_init 1 = .ok (.invokespecial 3, 3) := by decide +kernel
theorem dX3_init_4 : decode cX3_init 4 = .ok (.aload_n 0, 1) := by decide +kernel
theorem dX3_init_5 : decode cX3_init 5 = .ok (.bipush 60, 2) := by decide +kernel
theorem dX3_init_7 : decode cX3_init 7 = .ok (.newarray .int, 2) := by decide +kernel
theorem dX3_init_9 : decode cX3_init 9 = .ok (.putfield 9, 3) := by decide +kernel
theorem dX3_init_12 : decode cX3_init 12 = .ok (.aload_n 0, 1) := by decide +kernel
theorem dX3_init_13 : decode cX3_init 13 = .ok (.aload_n 1, 1) := by decide +kernel
theorem dX3_init_14 : decode cX3_init 14 = .ok (.putfield 15, 3) := by decide +kernel
theorem dX3_init_17 : decode cX3_init 17 = .ok (.return_, 1) := by decide +kernel
theorem dX3_readFormula_0 : decode cX3_readFormula 0 = .ok (.aload_n 1, 1) := by decide +kernel
theorem dX3_readFormula_1 : decode cX3_readFormula 1 = .ok (.invokevirtual 19, 3) := by decide +kernel
theorem dX3_readFormula_4 : decode cX3_readFormula 4 = .ok (.aload_n 0, 1) := by decide +kernel
theorem dX3_readFormula_5 : decode cX3_readFormula 5 = .ok (.iconst 0, 1) := by decide +kernel
theorem dX3_readFormula_6 : decode cX3_readFormula 6 = .ok (.putfield 24, 3) := by decide +kernel
theorem dX3_readFormula_9 : decode cX3_readFormula 9 = .ok (.aload_n 0, 1) := by decide +kernel
theorem dX3_readFormula_10 : decode cX3_readFormula 10 = .ok (.iconst 0, 1) := by decide +kernel
theorem dX3_readFormula_11 : decode cX3_readFormula 11 = .ok (.putfield 28, 3) := by decide +kernel
theorem dX3_readFormula_14 : decode cX3_readFormula 14 = .ok (.aload_n 0, 1) := by decide +kernel
theorem dX3_readFormula_15 : decode cX3_readFormula 15 = .ok (.iconst 0, 1) := by decide +kernel
theorem dX3_readFormula_16 : decode cX3_readFormula 16 = .ok (.putfield 31, 3) := by decide +kernel
theorem dX3_readFormula_19 : decode cX3_readFormula 19 = .ok (.iconst 1, 1) := by decide +kernel
theorem dX3_readFormula_20 : decode cX3_readFormula 20 = .ok (.istore_n 2, 1) := by decide +kernel
theorem dX3_readFormula_21 : decode cX3_readFormula 21 = .ok (.iconst 0, 1) := by decide +kernel
theorem dX3_readFormula_22 : decode cX3_readFormula 22 = .ok (.istore_n 3, 1) := by decide +kernel
theorem dX3_readFormula_23 : decode cX3_readFormula 23 = .ok (.iload_n 3, 1) := by decide +kernel
theorem dX3_readFormula_24 : decode cX3_readFormula 24 = .ok (.sipush 1600, 3) := by decide +kernel
theorem dX3_readFormula_27 : decode cX3_readFormula 27 = .ok (.if_icmp .gt 75, 3) := by decide +kernel
theorem dX3_readFormula_30 : decode cX3_readFormula 30 = .ok (.iload_n 2, 1) := by decide +kernel
theorem dX3_readFormula_31 : decode cX3_readFormula 31 = .ok (.iconst 3, 1) := by decide +kernel
theorem dX3_readFormula_32 : decode cX3_readFormula 32 = .ok (.if_icmp .ne 30, 3) := by decide +kernel
theorem dX3_readFormula_35 : decode cX3_readFormula 35 = .ok (.aload_n 0, 1) := by decide +kernel
theorem dX3_readFormula_36 : decode cX3_readFormula 36 = .ok (.getfield 15, 3) := by decide +kernel
theorem dX3_readFormula_39 : decode cX3_readFormula 39 = .ok (.getfield 34, 3) := by decide +kernel
theorem dX3_readFormula_42 : decode cX3_readFormula 42 = .ok (.bipush 59, 2) := by decide +kernel
theorem dX3_readFormula_44 : decode cX3_readFormula 44 = .ok (.if_icmp .ne 18, 3) := by decide +kernel
theorem dX3_readFormula_47 : decode cX3_readFormula 47 = .ok (.aload_n 0, 1) := by decide +kernel
theorem dX3_readFormula_48 : decode cX3_readFormula 48 = .ok (.getfield 28, 3) := by decide +kernel
theorem dX3_readFormula_51 : decode cX3_readFormula 51 = .ok (.ifCond .ne 11, 3) := by decide +kernel
theorem dX3_readFormula_54 : decode cX3_readFormula 54 = .ok (.aload_n 0, 1) := by decide +kernel
theorem dX3_readFormula_55 : decode cX3_readFormula 55 = .ok (.aload_n 1, 1) := by decide +kernel
theorem dX3_readFormula_56 : decode cX3_readFormula 56 = .ok (.iconst 1, 1) := by decide +kernel
theorem dX3_readFormula_57 : decode cX3_readFormula 57 = .ok (.invokevirtual 39, 3) := by decide +kernel
theorem dX3_readFormula_60 : decode cX3_readFormula 60 = .ok (.iconst 1, 1) := by decide +kernel
theorem dX3_readFormula_61 : decode cX3_readFormula 61 = .ok (.ireturn, 1) := by decide +kernel
theorem dX3_readFormula_62 : decode cX3_readFormula 62 = .ok (.iload_n 2, 1) := by decide +kernel
theorem dX3_readFormula_63 : decode cX3_readFormula 63 = .ok (.iconst 3, 1) := by decide +kernel
theorem dX3_readFormula_64 : decode cX3_readFormula 64 = .ok (.if_icmp .ne 11, 3) := by decide +kernel
theorem dX3_readFormula_67 : decode cX3_readFormula 67 = .ok (.aload_n 0, 1) := by decide +kernel
theorem dX3_readFormula_68 : decode cX3_readFormula 68 = .ok (.aload_n 1, 1) := by decide +kernel
theorem dX3_readFormula_69 : decode cX3_readFormula 69 = .ok (.invokevirtual 43, 3) := by decide +kernel
theorem dX3_readFormula_72 : decode cX3_readFormula 72 = .ok (.goto 9, 3) := by decide +kernel
theorem dX3_readFormula_75 : decode cX3_readFormula 75 = .ok (.aload_n 0, 1) := by decide +kernel
theorem dX3_readFormula_76 : decode cX3_readFormula 76 = .ok (.aload_n 1, 1) := by decide +kernel
theorem dX3_readFormula_77 : decode cX3_readFormula 77 = .ok (.iload_n 2, 1) := by decide +kernel
theorem dX3_readFormula_78 : decode cX3_readFormula 78 = .ok (.invokevirtual 47, 3) := by decide +kernel
theorem dX3_readFormula_81 : decode cX3_readFormula 81 = .ok (.istore_n 2, 1) := by decide +kernel
theorem dX3_readFormula_82 : decode cX3_readFormula 82 = .ok (.iload_n 2, 1) := by decide +kernel
theorem dX3_readFormula_83 : decode cX3_readFormula 83 = .ok (.iconst (-1), 1) := by decide +kernel
theorem dX3_readFormula_84 : decode cX3_readFormula 84 = .ok (.if_icmp .ne 5, 3) := by decide +kernel
theorem dX3_readFormula_87 : decode cX3_readFormula 87 = .ok (.iconst 0, 1) := by decide +kernel
theorem dX3_readFormula_88 : decode cX3_readFormula 88 = .ok (.ireturn, 1) := by decide +kernel
theorem dX3_readFormula_89 : decode cX3_readFormula 89 = .ok (.aload_n 0, 1) := by decide +kernel
theorem dX3_readFormula_90 : decode cX3_readFormula 90 = .ok (.getfield 15, 3) := by decide +kernel
theorem dX3_readFormula_93 : decode cX3_readFormula 93 = .ok (.invokevirtual 51, 3) := by decide +kernel
theorem dX3_readFormula_96 : decode cX3_readFormula 96 = .ok (.iinc 3 1, 3) := by decide +kernel
theorem dX3_readFormula_99 : decode cX3_readFormula 99 = .ok (.goto (-76), 3) := by decide +kernel
theorem dX3_readFormula_102 : decode cX3_readFormula 102 = .ok (.iconst 0, 1) := by decide +kernel
theorem dX3_readFormula_103 : decode cX3_readFormula 103 = .ok (.ireturn, 1) := by decide +kernel
theorem dX3_readUnit_0 : decode cX3_readUnit 0 = .ok (.aload_n 0, 1) := by decide +kernel
theorem dX3_readUnit_1 : decode cX3_readUnit 1 = .ok (.getfield 15, 3) := by decide +kernel
theorem dX3_readUnit_4 : decode cX3_readUnit 4 = .ok (.getfield 34, 3) := by decide +kernel
theorem dX3_readUnit_7 : decode cX3_readUnit 7 = .ok (.istore_n 3, 1) := by decide +kernel
theorem dX3_readUnit_8 : decode cX3_readUnit 8 = .ok (.iload_n 3, 1) := by decide +kernel
theorem dX3_readUnit_9 : decode cX3_readUnit 9 = .ok (.sipush 273, 3) := by decide +kernel
theorem dX3_readUnit_12 : decode cX3_readUnit 12 = .ok (.if_icmp .ne 24, 3) := by decide +kernel
theorem dX3_readUnit_15 : decode cX3_readUnit 15 = .ok (.iload_n 2, 1) := by decide +kernel
theorem dX3_readUnit_16 : decode cX3_readUnit 16 = .ok (.iconst 1, 1) := by decide +kernel
theorem dX3_readUnit_17 : decode cX3_readUnit 17 = .ok (.if_icmp .ne 17, 3) := by decide +kernel
theorem dX3_readUnit_20 : decode cX3_readUnit 20 = .ok (.aload_n 0, 1) := by decide +kernel
theorem dX3_readUnit_21 : decode cX3_readUnit 21 = .ok (.sipush 273, 3) := by decide +kernel
theorem dX3_readUnit_24 : decode cX3_readUnit 24 = .ok (.invokevirtual 54, 3) := by decide +kernel
theorem dX3_readUnit_27 : decode cX3_readUnit 27 = .ok (.ifCond .eq 7, 3) := by decide +kernel
theorem dX3_readUnit_30 : decode cX3_readUnit 30 = .ok (.iconst 1, 1) := by decide +kernel
theorem dX3_readUnit_31 : decode cX3_readUnit 31 = .ok (.goto 4, 3) := by decide +kernel
theorem dX3_readUnit_34 : decode cX3_readUnit 34 = .ok (.iconst (-1), 1) := by decide +kernel
theorem dX3_readUnit_35 : decode cX3_readUnit 35 = .ok (.ireturn, 1) := by decide +kernel
theorem dX3_readUnit_36 : decode cX3_readUnit 36 = .ok (.aload_n 1, 1) := by decide +kernel
theorem dX3_readUnit_37 : decode cX3_readUnit 37 = .ok (.getfield 58, 3) := by decide +kernel
theorem dX3_readUnit_40 : decode cX3_readUnit 40 = .ok (.bipush 30, 2) := by decide +kernel
theorem dX3_readUnit_42 : decode cX3_readUnit 42 = .ok (.if_icmp .lt 5, 3) := by decide +kernel
theorem dX3_readUnit_45 : decode cX3_readUnit 45 = .ok (.iconst (-1), 1) := by decide +kernel
theorem dX3_readUnit_46 : decode cX3_readUnit 46 = .ok (.ireturn, 1) := by decide +kernel
theorem dX3_readUnit_47 : decode cX3_readUnit 47 = .ok (.iload_n 3, 1) := by decide +kernel
theorem dX3_readUnit_48 : decode cX3_readUnit 48 = .ok (.bipush 40, 2) := by decide +kernel
theorem dX3_readUnit_50 : decode cX3_readUnit 50 = .ok (.if_icmp .ne 36, 3) := by decide +kernel
theorem dX3_readUnit_53 : decode cX3_readUnit 53 = .ok (.aload_n 0, 1) := by decide +kernel
theorem dX3_readUnit_54 : decode cX3_readUnit 54 = .ok (.bipush 40, 2) := by decide +kernel
theorem dX3_readUnit_56 : decode cX3_readUnit 56 = .ok (.invokevirtual 54, 3) := by decide +kernel
theorem dX3_readUnit_59 : decode cX3_readUnit 59 = .ok (.ifCond .ne 5, 3) := by decide +kernel
theorem dX3_readUnit_62 : decode cX3_readUnit 62 = .ok (.iconst (-1), 1) := by decide +kernel
theorem dX3_readUnit_63 : decode cX3_readUnit 63 = .ok (.ireturn, 1) := by decide +kernel
theorem dX3_readUnit_64 : decode cX3_readUnit 64 = .ok (.aload_n 0, 1) := by decide +kernel
theorem dX3_readUnit_65 : decode cX3_readUnit 65 = .ok (.dup, 1) := by decide +kernel
theorem dX3_readUnit_66 : decode cX3_readUnit 66 = .ok (.getfield 28, 3) := by decide +kernel
theorem dX3_readUnit_69 : decode cX3_readUnit 69 = .ok (.iconst 1, 1) := by decide +kernel
theorem dX3_readUnit_70 : decode cX3_readUnit 70 = .ok (.iadd, 1) := by decide +kernel
theorem dX3_readUnit_71 : decode cX3_readUnit 71 = .ok (.putfield 28, 3) := by decide +kernel
theorem dX3_readUnit_74 : decode cX3_readUnit 74 = .ok (.aload_n 1, 1) := by decide +kernel
theorem dX3_readUnit_75 : decode cX3_readUnit 75 = .ok (.dup, 1) := by decide +kernel
theorem dX3_readUnit_76 : decode cX3_readUnit 76 = .ok (.getfield 58, 3) := by decide +kernel
theorem dX3_readUnit_79 : decode cX3_readUnit 79 = .ok (.iconst 1, 1) := by decide +kernel
theorem dX3_readUnit_80 : decode cX3_readUnit 80 = .ok (.iadd, 1) := by decide +kernel
theorem dX3_readUnit_81 : decode cX3_readUnit 81 = .ok (.putfield 58, 3) := by decide +kernel
theorem dX3_readUnit_84 : decode cX3_readUnit 84 = .ok (.iconst 1, 1) := by decide +kernel
theorem dX3_readUnit_85 : decode cX3_readUnit 85 = .ok (.ireturn, 1) := by decide +kernel
theorem dX3_readUnit_86 : decode cX3_readUnit 86 = .ok (.iload_n 3, 1) := by decide +kernel
theorem dX3_readUnit_87 : decode cX3_readUnit 87 = .ok (.invokestatic 61, 3) := by decide +kernel
theorem dX3_readUnit_90 : decode cX3_readUnit 90 = .ok (.istore 4, 2) := by decide +kernel
theorem dX3_readUnit_92 : decode cX3_readUnit 92 = .ok (.iload_n 3, 1) := by decide +kernel
theorem dX3_readUnit_93 : decode cX3_readUnit 93 = .ok (.iconst 2, 1) := by decide +kernel
theorem dX3_readUnit_94 : decode cX3_readUnit 94 = .ok (.if_icmp .ne 17, 3) := by decide +kernel
theorem dX3_readUnit_97 : decode cX3_readUnit 97 = .ok (.aload_n 1, 1) := by decide +kernel
theorem dX3_readUnit_98 : decode cX3_readUnit 98 = .ok (.aload_n 0, 1) := by decide +kernel
theorem dX3_readUnit_99 : decode cX3_readUnit 99 = .ok (.getfield 15, 3) := by decide +kernel
theorem dX3_readUnit_102 : decode cX3_readUnit 102 = .ok (.getfield 65, 3) := by decide +kernel
theorem dX3_readUnit_105 : decode cX3_readUnit 105 = .ok (.invokevirtual 68, 3) := by decide +kernel
theorem dX3_readUnit_108 : decode cX3_readUnit 108 = .ok (.goto 20, 3) := by decide +kernel
theorem dX3_readUnit_111 : decode cX3_readUnit 111 = .ok (.iload 4, 2) := by decide +kernel
theorem dX3_readUnit_113 : decode cX3_readUnit 113 = .ok (.iconst (-1), 1) := by decide +kernel
theorem dX3_readUnit_114 : decode cX3_readUnit 114 = .ok (.if_icmp .eq 12, 3) := by decide +kernel
theorem dX3_readUnit_117 : decode cX3_readUnit 117 = .ok (.aload_n 1, 1) := by decide +kernel
theorem dX3_readUnit_118 : decode cX3_readUnit 118 = .ok (.iload 4, 2) := by decide +kernel
theorem dX3_readUnit_120 : decode cX3_readUnit 120 = .ok (.invokevirtual 72, 3) := by decide +kernel
theorem dX3_readUnit_123 : decode cX3_readUnit 123 = .ok (.goto 5, 3) := by decide +kernel
theorem dX3_readUnit_126 : decode cX3_readUnit 126 = .ok (.iconst (-1), 1) := by decide +kernel
theorem dX3_readUnit_127 : decode cX3_readUnit 127 = .ok (.ireturn, 1) := by decide +kernel
theorem dX3_readUnit_128 : decode cX3_readUnit 128 = .ok (.aload_n 1, 1) := by decide +kernel
theorem dX3_readUnit_129 : decode cX3_readUnit 129 = .ok (.dup, 1) := by decide +kernel
theorem dX3_readUnit_130 : decode cX3_readUnit 130 = .ok (.getfield 58, 3) := by decide +kernel
theorem dX3_readUnit_133 : decode cX3_readUnit 133 = .ok (.iconst 1, 1) := by decide +kernel
theorem dX3_readUnit_134 : decode cX3_readUnit 134 = .ok (.iadd, 1) := by decide +kernel
theorem dX3_readUnit_135 : decode cX3_readUnit 135 = .ok (.putfield 58, 3) := by decide +kernel
theorem dX3_readUnit_138 : decode cX3_readUnit 138 = .ok (.iconst 3, 1) := by decide +kernel
theorem dX3_readUnit_139 : decode cX3_readUnit 139 = .ok (.ireturn, 1) := by decide +kernel
theorem dX3_readBehindUnit_0 : decode cX3_readBehindUnit 0 = .ok (.aload_n 0, 1) := by decide +kernel
theorem dX3_readBehindUnit_1 : decode cX3_readBehindUnit 1 = .ok (.getfield 15, 3) := by decide +kernel
theorem dX3_readBehindUnit_4 : decode cX3_readBehindUnit 4 = .ok (.getfield 34, 3) := by decide +kernel
theorem dX3_readBehindUnit_7 : decode cX3_readBehindUnit 7 = .ok (.istore_n 2, 1) := by decide +kernel
theorem dX3_readBehindUnit_8 : decode cX3_readBehindUnit 8 = .ok (.iload_n 2, 1) := by decide +kernel
theorem dX3_readBehindUnit_9 : decode cX3_readBehindUnit 9 = .ok (.bipush 41, 2) := by decide +kernel
theorem dX3_readBehindUnit_11 : decode cX3_readBehindUnit 11 = .ok (.if_icmp .ne 50, 3) := by decide +kernel
theorem dX3_readBehindUnit_14 : decode cX3_readBehindUnit 14 = .ok (.aload_n 0, 1) := by decide +kernel
theorem dX3_readBehindUnit_15 : decode cX3_readBehindUnit 15 = .ok (.getfield 28, 3) := by decide +kernel
theorem dX3_readBehindUnit_18 : decode cX3_readBehindUnit 18 = .ok (.ifCond .ne 5, 3) := by decide +kernel
theorem dX3_readBehindUnit_21 : decode cX3_readBehindUnit 21 = .ok (.iconst (-1), 1) := by decide +kernel
theorem dX3_readBehindUnit_22 : decode cX3_readBehindUnit 22 = .ok (.ireturn, 1) := by decide +kernel
theorem dX3_readBehindUnit_23 : decode cX3_readBehindUnit 23 = .ok (.aload_n 0, 1) := by decide +kernel
theorem dX3_readBehindUnit_24 : decode cX3_readBehindUnit 24 = .ok (.aload_n 1, 1) := by decide +kernel
theorem dX3_readBehindUnit_25 : decode cX3_readBehindUnit 25 = .ok (.iconst 1, 1) := by decide +kernel
theorem dX3_readBehindUnit_26 : decode cX3_readBehindUnit 26 = .ok (.invokevirtual 39, 3) := by decide +kernel
theorem dX3_readBehindUnit_29 : decode cX3_readBehindUnit 29 = .ok (.aload_n 0, 1) := by decide +kernel
theorem dX3_readBehindUnit_30 : decode cX3_readBehindUnit 30 = .ok (.dup, 1) := by decide +kernel
theorem dX3_readBehindUnit_31 : decode cX3_readBehindUnit 31 = .ok (.getfield 24, 3) := by decide +kernel
theorem dX3_readBehindUnit_34 : decode cX3_readBehindUnit 34 = .ok (.iconst 1, 1) := by decide +kernel
theorem dX3_readBehindUnit_35 : decode cX3_readBehindUnit 35 = .ok (.isub, 1) := by decide +kernel
theorem dX3_readBehindUnit_36 : decode cX3_readBehindUnit 36 = .ok (.putfield 24, 3) := by decide +kernel
theorem dX3_readBehindUnit_39 : decode cX3_readBehindUnit 39 = .ok (.aload_n 0, 1) := by decide +kernel
theorem dX3_readBehindUnit_40 : decode cX3_readBehindUnit 40 = .ok (.dup, 1) := by decide +kernel
theorem dX3_readBehindUnit_41 : decode cX3_readBehindUnit 41 = .ok (.getfield 28, 3) := by decide +kernel
theorem dX3_readBehindUnit_44 : decode cX3_readBehindUnit 44 = .ok (.iconst 1, 1) := by decide +kernel
theorem dX3_readBehindUnit_45 : decode cX3_readBehindUnit 45 = .ok (.isub, 1) := by decide +kernel
theorem dX3_readBehindUnit_46 : decode cX3_readBehindUnit 46 = .ok (.putfield 28, 3) := by decide +kernel
theorem dX3_readBehindUnit_49 : decode cX3_readBehindUnit 49 = .ok (.aload_n 0, 1) := by decide +kernel
theorem dX3_readBehindUnit_50 : decode cX3_readBehindUnit 50 = .ok (.dup, 1) := by decide +kernel
theorem dX3_readBehindUnit_51 : decode cX3_readBehindUnit 51 = .ok (.getfield 31, 3) := by decide +kernel
theorem dX3_readBehindUnit_54 : decode cX3_readBehindUnit 54 = .ok (.iconst 1, 1) := by decide +kernel
theorem dX3_readBehindUnit_55 : decode cX3_readBehindUnit 55 = .ok (.isub, 1) := by decide +kernel
theorem dX3_readBehindUnit_56 : decode cX3_readBehindUnit 56 = .ok (.putfield 31, 3) := by decide +kernel
theorem dX3_readBehindUnit_59 : decode cX3_readBehindUnit 59 = .ok (.iconst 3, 1) := by decide +kernel
theorem dX3_readBehindUnit_60 : decode cX3_readBehindUnit 60 = .ok (.ireturn, 1) := by decide +kernel
theorem dX3_readBehindUnit_61 : decode cX3_readBehindUnit 61 = .ok (.iload_n 2, 1) := by decide +kernel
theorem dX3_readBehindUnit_62 : decode cX3_readBehindUnit 62 = .ok (.invokestatic 75, 3) := by decide +kernel
theorem dX3_readBehindUnit_65 : decode cX3_readBehindUnit 65 = .ok (.istore_n 3, 1) := by decide +kernel
theorem dX3_readBehindUnit_66 : decode cX3_readBehindUnit 66 = .ok (.iload_n 3, 1) := by decide +kernel
theorem dX3_readBehindUnit_67 : decode cX3_readBehindUnit 67 = .ok (.ifCond .eq 8, 3) := by decide +kernel
theorem dX3_readBehindUnit_70 : decode cX3_readBehindUnit 70 = .ok (.iload_n 3, 1) := by decide +kernel
theorem dX3_readBehindUnit_71 : decode cX3_readBehindUnit 71 = .ok (.iconst 3, 1) := by decide +kernel
theorem dX3_readBehindUnit_72 : decode cX3_readBehindUnit 72 = .ok (.if_icmp .ne 5, 3) := by decide +kernel
theorem dX3_readBehindUnit_75 : decode cX3_readBehindUnit 75 = .ok (.iconst (-1), 1) := by decide +kernel
theorem dX3_readBehindUnit_76 : decode cX3_readBehindUnit 76 = .ok (.ireturn, 1) := by decide +kernel
theorem dX3_readBehindUnit_77 : decode cX3_readBehindUnit 77 = .ok (.aload_n 0, 1) := by decide +kernel
theorem dX3_readBehindUnit_78 : decode cX3_readBehindUnit 78 = .ok (.aload_n 1, 1) := by decide +kernel
theorem dX3_readBehindUnit_79 : decode cX3_readBehindUnit 79 = .ok (.iload_n 3, 1) := by decide +kernel
theorem dX3_readBehindUnit_80 : decode cX3_readBehindUnit 80 = .ok (.iconst 4, 1) := by decide +kernel
theorem dX3_readBehindUnit_81 : decode cX3_readBehindUnit 81 = .ok (.if_icmp .ne 7, 3) := by decide +kernel
theorem dX3_readBehindUnit_84 : decode cX3_readBehindUnit 84 = .ok (.iconst 5, 1) := by decide +kernel
theorem dX3_readBehindUnit_85 : decode cX3_readBehindUnit 85 = .ok (.goto 4, 3) := by decide +kernel
theorem dX3_readBehindUnit_88 : decode cX3_readBehindUnit 88 = .ok (.iload_n 3, 1) := by decide +kernel
theorem dX3_readBehindUnit_89 : decode cX3_readBehindUnit 89 = .ok (.invokevirtual 39, 3) := by decide +kernel
theorem dX3_readBehindUnit_92 : decode cX3_readBehindUnit 92 = .ok (.iload_n 3, 1) := by decide +kernel
theorem dX3_readBehindUnit_93 : decode cX3_readBehindUnit 93 = .ok (.iconst 4, 1) := by decide +kernel
theorem dX3_readBehindUnit_94 : decode cX3_readBehindUnit 94 = .ok (.if_icmp .ne 13, 3) := by decide +kernel
theorem dX3_readBehindUnit_97 : decode cX3_readBehindUnit 97 = .ok (.aload_n 0, 1) := by decide +kernel
theorem dX3_readBehindUnit_98 : decode cX3_readBehindUnit 98 = .ok (.invokevirtual 78, 3) := by decide +kernel
theorem dX3_readBehindUnit_101 : decode cX3_readBehindUnit 101 = .ok (.iconst 4, 1) := by decide +kernel
theorem dX3_readBehindUnit_102 : decode cX3_readBehindUnit 102 = .ok (.if_icmp .ne 5, 3) := by decide +kernel
theorem dX3_readBehindUnit_105 : decode cX3_readBehindUnit 105 = .ok (.iconst (-1), 1) := by decide +kernel
theorem dX3_readBehindUnit_106 : decode cX3_readBehindUnit 106 = .ok (.ireturn, 1) := by decide +kernel
theorem dX3_readBehindUnit_107 : decode cX3_readBehindUnit 107 = .ok (.aload_n 0, 1) := by decide +kernel
theorem dX3_readBehindUnit_108 : decode cX3_readBehindUnit 108 = .ok (.iload_n 2, 1) := by decide +kernel
theorem dX3_readBehindUnit_109 : decode cX3_readBehindUnit 109 = .ok (.invokevirtual 82, 3) := by decide +kernel
theorem dX3_readBehindUnit_112 : decode cX3_readBehindUnit 112 = .ok (.ifCond .ne 5, 3) := by decide +kernel
theorem dX3_readBehindUnit_115 : decode cX3_readBehindUnit 115 = .ok (.iconst (-1), 1) := by decide +kernel
theorem dX3_readBehindUnit_116 : decode cX3_readBehindUnit 116 = .ok (.ireturn, 1) := by decide +kernel
theorem dX3_readBehindUnit_117 : decode cX3_readBehindUnit 117 = .ok (.iload_n 3, 1) := by decide +kernel
theorem dX3_readBehindUnit_118 : decode cX3_readBehindUnit 118 = .ok (.iconst 3, 1) := by decide +kernel
theorem dX3_readBehindUnit_119 : decode cX3_readBehindUnit 119 = .ok (.if_icmp .ge 7, 3) := by decide +kernel
theorem dX3_readBehindUnit_122 : decode cX3_readBehindUnit 122 = .ok (.iconst 1, 1) := by decide +kernel
theorem dX3_readBehindUnit_123 : decode cX3_readBehindUnit 123 = .ok (.goto 4, 3) := by decide +kernel
theorem dX3_readBehindUnit_126 : decode cX3_readBehindUnit 126 = .ok (.iconst 2, 1) := by decide +kernel
theorem dX3_readBehindUnit_127 : decode cX3_readBehindUnit 127 = .ok (.ireturn, 1) := by decide +kernel
theorem dX3_nest_0 : decode cX3_nest 0 = .ok (.aload_n 0, 1) := by decide +kernel
theorem dX3_nest_1 : decode cX3_nest 1 = .ok (.getfield 31, 3) := by decide +kernel
theorem dX3_nest_4 : decode cX3_nest 4 = .ok (.bipush 6, 2) := by decide +kernel
theorem dX3_nest_6 : decode cX3_nest 6 = .ok (.if_icmp .gt 11, 3) := by decide +kernel
theorem dX3_nest_9 : decode cX3_nest 9 = .ok (.aload_n 0, 1) := by decide +kernel
theorem dX3_nest_10 : decode cX3_nest 10 = .ok (.iload_n 1, 1) := by decide +kernel
theorem dX3_nest_11 : decode cX3_nest 11 = .ok (.invokevirtual 82, 3) := by decide +kernel
theorem dX3_nest_14 : decode cX3_nest 14 = .ok (.ifCond .ne 5, 3) := by decide +kernel
theorem dX3_nest_17 : decode cX3_nest 17 = .ok (.iconst 0, 1) := by decide +kernel
theorem dX3_nest_18 : decode cX3_nest 18 = .ok (.ireturn, 1) := by decide +kernel
theorem dX3_nest_19 : decode cX3_nest 19 = .ok (.aload_n 0, 1) := by decide +kernel
theorem dX3_nest_20 : decode cX3_nest 20 = .ok (.dup, 1) := by decide +kernel
theorem dX3_nest_21 : decode cX3_nest 21 = .ok (.getfield 31, 3) := by decide +kernel
theorem dX3_nest_24 : decode cX3_nest 24 = .ok (.iconst 1, 1) := by decide +kernel
theorem dX3_nest_25 : decode cX3_nest 25 = .ok (.iadd, 1) := by decide +kernel
theorem dX3_nest_26 : decode cX3_nest 26 = .ok (.putfield 31, 3) := by decide +kernel
theorem dX3_nest_29 : decode cX3_nest 29 = .ok (.iconst 1, 1) := by decide +kernel
theorem dX3_nest_30 : decode cX3_nest 30 = .ok (.ireturn, 1) := by decide +kernel
theorem dX3_await_0 : decode cX3_await 0 = .ok (.aload_n 0, 1) := by decide +kernel
theorem dX3_await_1 : decode cX3_await 1 = .ok (.getfield 24, 3) := by decide +kernel
theorem dX3_await_4 : decode cX3_await 4 = .ok (.ifCond .lt 15, 3) := by decide +kernel
theorem dX3_await_7 : decode cX3_await 7 = .ok (.aload_n 0, 1) := by decide +kernel
theorem dX3_await_8 : decode cX3_await 8 = .ok (.getfield 24, 3) := by decide +kernel
theorem dX3_await_11 : decode cX3_await 11 = .ok (.aload_n 0, 1) := by decide +kernel
theorem dX3_await_12 : decode cX3_await 12 = .ok (.getfield 9, 3) := by decide +kernel
theorem dX3_await_15 : decode cX3_await 15 = .ok (.arraylength, 1) := by decide +kernel
theorem dX3_await_16 : decode cX3_await 16 = .ok (.if_icmp .lt 5, 3) := by decide +kernel
theorem dX3_await_19 : decode cX3_await 19 = .ok (.iconst 0, 1) := by decide +kernel
theorem dX3_await_20 : decode cX3_await 20 = .ok (.ireturn, 1) := by decide +kernel
theorem dX3_await_21 : decode cX3_await 21 = .ok (.aload_n 0, 1) := by decide +kernel
theorem dX3_await_22 : decode cX3_await 22 = .ok (.getfield 9, 3) := by decide +kernel
theorem dX3_await_25 : decode cX3_await 25 = .ok (.aload_n 0, 1) := by decide +kernel
theorem dX3_await_26 : decode cX3_await 26 = .ok (.getfield 24, 3) := by decide +kernel
theorem dX3_await_29 : decode cX3_await 29 = .ok (.iload_n 1, 1) := by decide +kernel
theorem dX3_await_30 : decode cX3_await 30 = .ok (.iastore, 1) := by decide +kernel
theorem dX3_await_31 : decode cX3_await 31 = .ok (.aload_n 0, 1) := by decide +kernel
theorem dX3_await_32 : decode cX3_await 32 = .ok (.dup, 1) := by decide +kernel
theorem dX3_await_33 : decode cX3_await 33 = .ok (.getfield 24, 3) := by decide +kernel
theorem dX3_await_36 : decode cX3_await 36 = .ok (.iconst 1, 1) := by decide +kernel
theorem dX3_await_37 : decode cX3_await 37 = .ok (.iadd, 1) := by decide +kernel
theorem dX3_await_38 : decode cX3_await 38 = .ok (.putfield 24, 3) := by decide +kernel
theorem dX3_await_41 : decode cX3_await 41 = .ok (.iconst 1, 1) := by decide +kernel
theorem dX3_await_42 : decode cX3_await 42 = .ok (.ireturn, 1) := by decide +kernel
theorem dX3_bindingOnTop_0 : decode cX3_bindingOnTop 0 = .ok (.aload_n 0, 1) := by decide +kernel
theorem dX3_bindingOnTop_1 : decode cX3_bindingOnTop 1 = .ok (.getfield 24, 3) := by decide +kernel
theorem dX3_bindingOnTop_4 : decode cX3_bindingOnTop 4 = .ok (.ifCond .le 32, 3) := by decide +kernel
theorem dX3_bindingOnTop_7 : decode cX3_bindingOnTop 7 = .ok (.aload_n 0, 1) := by decide +kernel
theorem dX3_bindingOnTop_8 : decode cX3_bindingOnTop 8 = .ok (.getfield 24, 3) := by decide +kernel
theorem dX3_bindingOnTop_11 : decode cX3_bindingOnTop 11 = .ok (.aload_n 0, 1) := by decide +kernel
theorem dX3_bindingOnTop_12 : decode cX3_bindingOnTop 12 = .ok (.getfield 9, 3) := by decide +kernel
theorem dX3_bindingOnTop_15 : decode cX3_bindingOnTop 15 = .ok (.arraylength, 1) := by decide +kernel
theorem dX3_bindingOnTop_16 : decode cX3_bindingOnTop 16 = .ok (.if_icmp .gt 20, 3) := by decide +kernel
theorem dX3_bindingOnTop_19 : decode cX3_bindingOnTop 19 = .ok (.aload_n 0, 1) := by decide +kernel
theorem dX3_bindingOnTop_20 : decode cX3_bindingOnTop 20 = .ok (.getfield 9, 3) := by decide +kernel
theorem dX3_bindingOnTop_23 : decode cX3_bindingOnTop 23 = .ok (.aload_n 0, 1) := by decide +kernel
theorem dX3_bindingOnTop_24 : decode cX3_bindingOnTop 24 = .ok (.getfield 24, 3) := by decide +kernel
theorem dX3_bindingOnTop_27 : decode cX3_bindingOnTop 27 = .ok (.iconst 1, 1) := by decide +kernel
theorem dX3_bindingOnTop_28 : decode cX3_bindingOnTop 28 = .ok (.isub, 1) := by decide +kernel
theorem dX3_bindingOnTop_29 : decode cX3_bindingOnTop 29 = .ok (.iaload, 1) := by decide +kernel
theorem dX3_bindingOnTop_30 : decode cX3_bindingOnTop 30 = .ok (.invokestatic 75, 3) := by decide +kernel
theorem dX3_bindingOnTop_33 : decode cX3_bindingOnTop 33 = .ok (.goto 4, 3) := by decide +kernel
theorem dX3_bindingOnTop_36 : decode cX3_bindingOnTop 36 = .ok (.iconst 0, 1) := by decide +kernel
theorem dX3_bindingOnTop_37 : decode cX3_bindingOnTop 37 = .ok (.ireturn, 1) := by decide +kernel
theorem dX3_settle_0 : decode cX3_settle 0 = .ok (.aload_n 0, 1) := by decide +kernel
theorem dX3_settle_1 : decode cX3_settle 1 = .ok (.getfield 24, 3) := by decide +kernel
theorem dX3_settle_4 : decode cX3_settle 4 = .ok (.ifCond .le 74, 3) := by decide +kernel
theorem dX3_settle_7 : decode cX3_settle 7 = .ok (.aload_n 0, 1) := by decide +kernel
theorem dX3_settle_8 : decode cX3_settle 8 = .ok (.getfield 24, 3) := by decide +kernel
theorem dX3_settle_11 : decode cX3_settle 11 = .ok (.aload_n 0, 1) := by decide +kernel
theorem dX3_settle_12 : decode cX3_settle 12 = .ok (.getfield 9, 3) := by decide +kernel
theorem dX3_settle_15 : decode cX3_settle 15 = .ok (.arraylength, 1) := by decide +kernel
theorem dX3_settle_16 : decode cX3_settle 16 = .ok (.if_icmp .gt 62, 3) := by decide +kernel
theorem dX3_settle_19 : decode cX3_settle 19 = .ok (.aload_n 0, 1) := by decide +kernel
theorem dX3_settle_20 : decode cX3_settle 20 = .ok (.invokevirtual 78, 3) := by decide +kernel
theorem dX3_settle_23 : decode cX3_settle 23 = .ok (.iload_n 2, 1) := by decide +kernel
theorem dX3_settle_24 : decode cX3_settle 24 = .ok (.if_icmp .lt 54, 3) := by decide +kernel
theorem dX3_settle_27 : decode cX3_settle 27 = .ok (.aload_n 0, 1) := by decide +kernel
theorem dX3_settle_28 : decode cX3_settle 28 = .ok (.dup, 1) := by decide +kernel
theorem dX3_settle_29 : decode cX3_settle 29 = .ok (.getfield 24, 3) := by decide +kernel
theorem dX3_settle_32 : decode cX3_settle 32 = .ok (.iconst 1, 1) := by decide +kernel
theorem dX3_settle_33 : decode cX3_settle 33 = .ok (.isub, 1) := by decide +kernel
theorem dX3_settle_34 : decode cX3_settle 34 = .ok (.putfield 24, 3) := by decide +kernel
theorem dX3_settle_37 : decode cX3_settle 37 = .ok (.aload_n 1, 1) := by decide +kernel
theorem dX3_settle_38 : decode cX3_settle 38 = .ok (.aload_n 0, 1) := by decide +kernel
theorem dX3_settle_39 : decode cX3_settle 39 = .ok (.getfield 9, 3) := by decide +kernel
theorem dX3_settle_42 : decode cX3_settle 42 = .ok (.aload_n 0, 1) := by decide +kernel
theorem dX3_settle_43 : decode cX3_settle 43 = .ok (.getfield 24, 3) := by decide +kernel
theorem dX3_settle_46 : decode cX3_settle 46 = .ok (.iaload, 1) := by decide +kernel
theorem dX3_settle_47 : decode cX3_settle 47 = .ok (.invokevirtual 85, 3) := by decide +kernel
theorem dX3_settle_50 : decode cX3_settle 50 = .ok (.aload_n 0, 1) := by decide +kernel
theorem dX3_settle_51 : decode cX3_settle 51 = .ok (.getfield 9, 3) := by decide +kernel
theorem dX3_settle_54 : decode cX3_settle 54 = .ok (.aload_n 0, 1) := by decide +kernel
theorem dX3_settle_55 : decode cX3_settle 55 = .ok (.getfield 24, 3) := by decide +kernel
theorem dX3_settle_58 : decode cX3_settle 58 = .ok (.iaload, 1) := by decide +kernel
theorem dX3_settle_59 : decode cX3_settle 59 = .ok (.sipush 273, 3) := by decide +kernel
theorem dX3_settle_62 : decode cX3_settle 62 = .ok (.if_icmp .ne (-62), 3) := by decide +kernel
theorem dX3_settle_65 : decode cX3_settle 65 = .ok (.aload_n 0, 1) := by decide +kernel
theorem dX3_settle_66 : decode cX3_settle 66 = .ok (.dup, 1) := by decide +kernel
theorem dX3_settle_67 : decode cX3_settle 67 = .ok (.getfield 31, 3) := by decide +kernel
theorem dX3_settle_70 : decode cX3_settle 70 = .ok (.iconst 1, 1) := by decide +kernel
theorem dX3_settle_71 : decode cX3_settle 71 = .ok (.isub, 1) := by decide +kernel
theorem dX3_settle_72 : decode cX3_settle 72 = .ok (.putfield 31, 3) := by decide +kernel
theorem dX3_settle_75 : decode cX3_settle 75 = .ok (.goto (-75), 3) := by decide +kernel
theorem dX3_settle_78 : decode cX3_settle 78 = .ok (.return_, 1) := by decide +kernel
theorem dX3_knownBy_0 : decode cX3_knownBy 0 = .ok (.iload_n 0, 1) := by decide +kernel
theorem dX3_knownBy_1 : decode cX3_knownBy 1 = .ok (.tableswitch 83 263 276 #[75, 77, 83, 83, 83, 71, 83, 83, 83, 83, 83, 73, 79, 81], 71) := by decide +kernel
theorem dX3_knownBy_72 : decode cX3_knownBy 72 = .ok (.iconst 0, 1) := by decide +kernel
theorem dX3_knownBy_73 : decode cX3_knownBy 73 = .ok (.ireturn, 1) := by decide +kernel
theorem dX3_knownBy_74 : decode cX3_knownBy 74 = .ok (.iconst 1, 1) := by decide +kernel
theorem dX3_knownBy_75 : decode cX3_knownBy 75 = .ok (.ireturn, 1) := by decide +kernel
theorem dX3_knownBy_76 : decode cX3_knownBy 76 = .ok (.iconst 2, 1) := by decide +kernel
theorem dX3_knownBy_77 : decode cX3_knownBy 77 = .ok (.ireturn, 1) := by decide +kernel
theorem dX3_knownBy_78 : decode cX3_knownBy 78 = .ok (.iconst 3, 1) := by decide +kernel
theorem dX3_knownBy_79 : decode cX3_knownBy 79 = .ok (.ireturn, 1) := by decide +kernel
theorem dX3_knownBy_80 : decode cX3_knownBy 80 = .ok (.iconst 4, 1) := by decide +kernel
theorem dX3_knownBy_81 : decode cX3_knownBy 81 = .ok (.ireturn, 1) := by decide +kernel
theorem dX3_knownBy_82 : decode cX3_knownBy 82 = .ok (.iconst 5, 1) := by decide +kernel
theorem dX3_knownBy_83 : decode cX3_knownBy 83 = .ok (.ireturn, 1) := by decide +kernel
theorem dX3_knownBy_84 : decode cX3_knownBy 84 = .ok (.iconst (-1), 1) := by decide +kernel
theorem dX3_knownBy_85 : decode cX3_knownBy 85 = .ok (.ireturn, 1) := by decide +kernel
theorem dX3_bindingOf_0 : decode cX3_bindingOf 0 = .ok (.iload_n 0, 1) := by decide +kernel
theorem dX3_bindingOf_1 : decode cX3_bindingOf 1 = .ok (.lookupswitch 112 #[(37, 109), (42, 109), (43, 107), (45, 107), (47, 109), (60, 105), (61, 105), (62, 105), (271, 99), (272, 101), (273, 103)], 99) := by decide +kernel
theorem dX3_bindingOf_100 : decode cX3_bindingOf 100 = .ok (.iconst 1, 1) := by decide +kernel
theorem dX3_bindingOf_101 : decode cX3_bindingOf 101 = .ok (.ireturn, 1) := by decide +kernel
theorem dX3_bindingOf_102 : decode cX3_bindingOf 102 = .ok (.iconst 2, 1) := by decide +kernel
theorem dX3_bindingOf_103 : decode cX3_bindingOf 103 = .ok (.ireturn, 1) := by decide +kernel
theorem dX3_bindingOf_104 : decode cX3_bindingOf 104 = .ok (.iconst 3, 1) := by decide +kernel
theorem dX3_bindingOf_105 : decode cX3_bindingOf 105 = .ok (.ireturn, 1) := by decide +kernel
theorem dX3_bindingOf_106 : decode cX3_bindingOf 106 = .ok (.iconst 4, 1) := by decide +kernel
theorem dX3_bindingOf_107 : decode cX3_bindingOf 107 = .ok (.ireturn, 1) := by decide +kernel
theorem dX3_bindingOf_108 : decode cX3_bindingOf 108 = .ok (.iconst 5, 1) := by decide +kernel
theorem dX3_bindingOf_109 : decode cX3_bindingOf 109 = .ok (.ireturn, 1) := by decide +kernel
theorem dX3_bindingOf_110 : decode cX3_bindingOf 110 = .ok (.bipush 6, 2) := by decide +kernel
theorem dX3_bindingOf_112 : decode cX3_bindingOf 112 = .ok (.ireturn, 1) := by decide +kernel
theorem dX3_bindingOf_113 : decode cX3_bindingOf 113 = .ok (.iconst 0, 1) := by decide +kernel
theorem dX3_bindingOf_114 : decode cX3_bindingOf 114 = .ok (.ireturn, 1) := by decide +kernel
theorem dX4_init_0 : decode cX4_init 0 = .ok (.aload_n 0, 1) := by decide +kernel
theorem dX4_init_1 : decode cX4_init 1 = .ok (.invokespecial 3, 3) := by decide +kernel
theorem dX4_init_4 : decode cX4_init 4 = .ok (.aload_n 0, 1) := by decide +kernel
theorem dX4_init_5 : decode cX4_init 5 = .ok (.bipush 8, 2) := by decide +kernel
theorem dX4_init_7 : decode cX4_init 7 = .ok (.newarray .long, 2) := by decide +kernel
theorem dX4_init_9 : decode cX4_init 9 = .ok (.putfield 9, 3) := by decide +kernel
theorem dX4_init_12 : decode cX4_init 12 = .ok (.aload_n 0, 1) := by decide +kernel
theorem dX4_init_13 : decode cX4_init 13 = .ok (.bipush 8, 2) := by decide +kernel
theorem dX4_init_15 : decode cX4_init 15 = .ok (.newarray .int, 2) := by decide +kernel
theorem dX4_init_17 : decode cX4_init 17 = .ok (.putfield 15, 3) := by decide +kernel
theorem dX4_init_20 : decode cX4_init 20 = .ok (.aload_n 0, 1) := by decide +kernel
theorem dX4_init_21 : decode cX4_init 21 = .ok (.bipush 8, 2) := by decide +kernel
theorem dX4_init_23 : decode cX4_init 23 = .ok (.newarray .int, 2) := by decide +kernel
theorem dX4_init_25 : decode cX4_init 25 = .ok (.putfield 19, 3) := by decide +kernel
theorem dX4_init_28 : decode cX4_init 28 = .ok (.aload_n 0, 1) := by decide +kernel
theorem dX4_init_29 : decode cX4_init 29 = .ok (.bipush 14, 2) := by decide +kernel
theorem dX4_init_31 : decode cX4_init 31 = .ok (.newarray .int, 2) := by decide +kernel
theorem dX4_init_33 : decode cX4_init 33 = .ok (.putfield 22, 3) := by decide +kernel
theorem dX4_init_36 : decode cX4_init 36 = .ok (.aload_n 0, 1) := by decide +kernel
theorem dX4_init_37 : decode cX4_init 37 = .ok (.bipush 14, 2) := by decide +kernel
theorem dX4_init_39 : decode cX4_init 39 = .ok (.newarray .int, 2) := by decide +kernel
theorem dX4_init_41 : decode cX4_init 41 = .ok (.putfield 25, 3) := by decide +kernel
theorem dX4_init_44 : decode cX4_init 44 = .ok (.aload_n 0, 1) := by decide +kernel
theorem dX4_init_45 : decode cX4_init 45 = .ok (.bipush 14, 2) := by decide +kernel
theorem dX4_init_47 : decode cX4_init 47 = .ok (.newarray .int, 2) := by decide +kernel
theorem dX4_init_49 : decode cX4_init 49 = .ok (.putfield 28, 3) := by decide +kernel
theorem dX4_init_52 : decode cX4_init 52 = .ok (.aload_n 0, 1) := by decide +kernel
theorem dX4_init_53 : decode cX4_init 53 = .ok (.bipush 14, 2) := by decide +kernel
theorem dX4_init_55 : decode cX4_init 55 = .ok (.newarray .int, 2) := by decide +kernel
theorem dX4_init_57 : decode cX4_init 57 = .ok (.putfield 31, 3) := by decide +kernel
theorem dX4_init_60 : decode cX4_init 60 = .ok (.aload_n 0, 1) := by decide +kernel
theorem dX4_init_61 : decode cX4_init 61 = .ok (.bipush 6, 2) := by decide +kernel
theorem dX4_init_63 : decode cX4_init 63 = .ok (.newarray .long, 2) := by decide +kernel
theorem dX4_init_65 : decode cX4_init 65 = .ok (.putfield 34, 3) := by decide +kernel
theorem dX4_init_68 : decode cX4_init 68 = .ok (.aload_n 0, 1) := by decide +kernel
theorem dX4_init_69 : decode cX4_init 69 = .ok (.bipush 12, 2) := by decide +kernel
theorem dX4_init_71 : decode cX4_init 71 = .ok (.newarray .int, 2) := by decide +kernel
theorem dX4_init_73 : decode cX4_init 73 = .ok (.putfield 37, 3) := by decide +kernel
theorem dX4_init_76 : decode cX4_init 76 = .ok (.aload_n 0, 1) := by decide +kernel
theorem dX4_init_77 : decode cX4_init 77 = .ok (.bipush 6, 2) := by decide +kernel
theorem dX4_init_79 : decode cX4_init 79 = .ok (.newarray .long, 2) := by decide +kernel
theorem dX4_init_81 : decode cX4_init 81 = .ok (.putfield 40, 3) := by decide +kernel
theorem dX4_init_84 : decode cX4_init 84 = .ok (.aload_n 0, 1) := by decide +kernel
theorem dX4_init_85 : decode cX4_init 85 = .ok (.bipush 6, 2) := by decide +kernel
theorem dX4_init_87 : decode cX4_init 87 = .ok (.newarray .int, 2) := by decide +kernel
theorem dX4_init_89 : decode cX4_init 89 = .ok (.putfield 43, 3) := by decide +kernel
theorem dX4_init_92 : decode cX4_init 92 = .ok (.aload_n 0, 1) := by decide +kernel
theorem dX4_init_93 : decode cX4_init 93 = .ok (.bipush 6, 2) := by decide +kernel
theorem dX4_init_95 : decode cX4_init 95 = .ok (.newarray .int, 2) := by decide +kernel
theorem dX4_init_97 : decode cX4_init 97 = .ok (.putfield 46, 3) := by decide +kernel
theorem dX4_init_100 : decode cX4_init 100 = .ok (.aload_n 0, 1) := by decide +kernel
theorem dX4_init_101 : decode cX4_init 101 = .ok (.bipush 48, 2) := by decide +kernel
theorem dX4_init_103 : decode cX4_init 103 = .ok (.newarray .int, 2) := by decide +kernel
theorem dX4_init_105 : decode cX4_init 105 = .ok (.putfield 49, 3) := by decide +kernel
theorem dX4_init_108 : decode cX4_init 108 = .ok (.aload_n 0, 1) := by decide +kernel
theorem dX4_init_109 : decode cX4_init 109 = .ok (.new 52, 3) := by decide +kernel
theorem dX4_init_112 : decode cX4_init 112 = .ok (.dup, 1) := by decide +kernel
theorem dX4_init_113 : decode cX4_init 113 = .ok (.invokespecial 54, 3) := by decide +kernel
theorem dX4_init_116 : decode cX4_init 116 = .ok (.putfield 55, 3) := by decide +kernel
theorem dX4_init_119 : decode cX4_init 119 = .ok (.aload_n 0, 1) := by decide +kernel
theorem dX4_init_120 : decode cX4_init 120 = .ok (.new 52, 3) := by decide +kernel
theorem dX4_init_123 : decode cX4_init 123 = .ok (.dup, 1) := by decide +kernel
theorem dX4_init_124 : decode cX4_init 124 = .ok (.invokespecial 54, 3) := by decide +kernel
theorem dX4_init_127 : decode cX4_init 127 = .ok (.putfield 59, 3) := by decide +kernel
theorem dX4_init_130 : decode cX4_init 130 = .ok (.return_, 1) := by decide +kernel
theorem dX4_clear_0 : decode cX4_clear 0 = .ok (.aload_n 0, 1) := by decide +kernel
theorem dX4_clear_1 : decode cX4_clear 1 = .ok (.iconst 0, 1) := by decide +kernel
theorem dX4_clear_2 : decode cX4_clear 2 = .ok (.putfield 62, 3) := by decide +kernel
theorem dX4_clear_5 : decode cX4_clear 5 = .ok (.aload_n 0, 1) := by decide +kernel
theorem dX4_clear_6 : decode cX4_clear 6 = .ok (.iconst 0, 1) := by decide +kernel
theorem dX4_clear_7 : decode cX4_clear 7 = .ok (.putfield 66, 3) := by decide +kernel
theorem dX4_clear_10 : decode cX4_clear 10 = .ok (.aload_n 0, 1) := by decide +kernel
theorem dX4_clear_11 : decode cX4_clear 11 = .ok (.iconst 0, 1) := by decide +kernel
theorem dX4_clear_12 : decode cX4_clear 12 = .ok (.putfield 69, 3) := by decide +kernel
theorem dX4_clear_15 : decode cX4_clear 15 = .ok (.aload_n 0, 1) := by decide +kernel
theorem dX4_clear_16 : decode cX4_clear 16 = .ok (.iconst 0, 1) := by decide +kernel
theorem dX4_clear_17 : decode cX4_clear 17 = .ok (.putfield 72, 3) := by decide +kernel
theorem dX4_clear_20 : decode cX4_clear 20 = .ok (.aload_n 0, 1) := by decide +kernel
theorem dX4_clear_21 : decode cX4_clear 21 = .ok (.iconst 0, 1) := by decide +kernel
theorem dX4_clear_22 : decode cX4_clear 22 = .ok (.putfield 75, 3) := by decide +kernel
theorem dX4_clear_25 : decode cX4_clear 25 = .ok (.aload_n 0, 1) := by decide +kernel
theorem dX4_clear_26 : decode cX4_clear 26 = .ok (.getfield 55, 3) := by decide +kernel
theorem dX4_clear_29 : decode cX4_clear 29 = .ok (.invokevirtual 78, 3) := by decide +kernel
theorem dX4_clear_32 : decode cX4_clear 32 = .ok (.aload_n 0, 1) := by decide +kernel
theorem dX4_clear_33 : decode cX4_clear 33 = .ok (.getfield 59, 3) := by decide +kernel
theorem dX4_clear_36 : decode cX4_clear 36 = .ok (.invokevirtual 78, 3) := by decide +kernel
theorem dX4_clear_39 : decode cX4_clear 39 = .ok (.return_, 1) := by decide +kernel
theorem dX4_isPlace_0 : decode cX4_isPlace 0 = .ok (.iload_n 1, 1) := by decide +kernel
theorem dX4_isPlace_1 : decode cX4_isPlace 1 = .ok (.ifCond .lt 21, 3) := by decide +kernel
theorem dX4_isPlace_4 : decode cX4_isPlace 4 = .ok (.iload_n 1, 1) := by decide +kernel
theorem dX4_isPlace_5 : decode cX4_isPlace 5 = .ok (.aload_n 0, 1) := by decide +kernel
theorem dX4_isPlace_6 : decode cX4_isPlace 6 = .ok (.getfield 62, 3) := by decide +kernel
theorem dX4_isPlace_9 : decode cX4_isPlace 9 = .ok (.if_icmp .ge 13, 3) := by decide +kernel
theorem dX4_isPlace_12 : decode cX4_isPlace 12 = .ok (.iload_n 1, 1) := by decide +kernel
theorem dX4_isPlace_13 : decode cX4_isPlace 13 = .ok (.bipush 8, 2) := by decide +kernel
theorem dX4_isPlace_15 : decode cX4_isPlace 15 = .ok (.if_icmp .ge 7, 3) := by decide +kernel
theorem dX4_isPlace_18 : decode cX4_isPlace 18 = .ok (.iconst 1, 1) := by decide +kernel
theorem dX4_isPlace_19 : decode cX4_isPlace 19 = .ok (.goto 4, 3) := by decide +kernel
theorem dX4_isPlace_22 : decode cX4_isPlace 22 = .ok (.iconst 0, 1) := by decide +kernel
theorem dX4_isPlace_23 : decode cX4_isPlace 23 = .ok (.ireturn, 1) := by decide +kernel
theorem dX4_isWay_0 : decode cX4_isWay 0 = .ok (.iload_n 1, 1) := by decide +kernel
theorem dX4_isWay_1 : decode cX4_isWay 1 = .ok (.ifCond .lt 21, 3) := by decide +kernel
theorem dX4_isWay_4 : decode cX4_isWay 4 = .ok (.iload_n 1, 1) := by decide +kernel
theorem dX4_isWay_5 : decode cX4_isWay 5 = .ok (.aload_n 0, 1) := by decide +kernel
theorem dX4_isWay_6 : decode cX4_isWay 6 = .ok (.getfield 66, 3) := by decide +kernel
theorem dX4_isWay_9 : decode cX4_isWay 9 = .ok (.if_icmp .ge 13, 3) := by decide +kernel
theorem dX4_isWay_12 : decode cX4_isWay 12 = .ok (.iload_n 1, 1) := by decide +kernel
theorem dX4_isWay_13 : decode cX4_isWay 13 = .ok (.bipush 14, 2) := by decide +kernel
theorem dX4_isWay_15 : decode cX4_isWay 15 = .ok (.if_icmp .ge 7, 3) := by decide +kernel
theorem dX4_isWay_18 : decode cX4_isWay 18 = .ok (.iconst 1, 1) := by decide +kernel
theorem dX4_isWay_19 : decode cX4_isWay 19 = .ok (.goto 4, 3) := by decide +kernel
theorem dX4_isWay_22 : decode cX4_isWay 22 = .ok (.iconst 0, 1) := by decide +kernel
theorem dX4_isWay_23 : decode cX4_isWay 23 = .ok (.ireturn, 1) := by decide +kernel
theorem dX4_isSoul_0 : decode cX4_isSoul 0 = .ok (.iload_n 1, 1) := by decide +kernel
theorem dX4_isSoul_1 : decode cX4_isSoul 1 = .ok (.ifCond .lt 21, 3) := by decide +kernel
theorem dX4_isSoul_4 : decode cX4_isSoul 4 = .ok (.iload_n 1, 1) := by decide +kernel
theorem dX4_isSoul_5 : decode cX4_isSoul 5 = .ok (.aload_n 0, 1) := by decide +kernel
theorem dX4_isSoul_6 : decode cX4_isSoul 6 = .ok (.getfield 69, 3) := by decide +kernel
theorem dX4_isSoul_9 : decode cX4_isSoul 9 = .ok (.if_icmp .ge 13, 3) := by decide +kernel
theorem dX4_isSoul_12 : decode cX4_isSoul 12 = .ok (.iload_n 1, 1) := by decide +kernel
theorem dX4_isSoul_13 : decode cX4_isSoul 13 = .ok (.bipush 6, 2) := by decide +kernel
theorem dX4_isSoul_15 : decode cX4_isSoul 15 = .ok (.if_icmp .ge 7, 3) := by decide +kernel
theorem dX4_isSoul_18 : decode cX4_isSoul 18 = .ok (.iconst 1, 1) := by decide +kernel
theorem dX4_isSoul_19 : decode cX4_isSoul 19 = .ok (.goto 4, 3) := by decide +kernel
theorem dX4_isSoul_22 : decode cX4_isSoul 22 = .ok (.iconst 0, 1) := by decide +kernel
theorem dX4_isSoul_23 : decode cX4_isSoul 23 = .ok (.ireturn, 1) := by decide +kernel
theorem dX4_isMatter_0 : decode cX4_isMatter 0 = .ok (.iload_n 1, 1) := by decide +kernel
theorem dX4_isMatter_1 : decode cX4_isMatter 1 = .ok (.ifCond .lt 21, 3) := by decide +kernel
theorem dX4_isMatter_4 : decode cX4_isMatter 4 = .ok (.iload_n 1, 1) := by decide +kernel
theorem dX4_isMatter_5 : decode cX4_isMatter 5 = .ok (.aload_n 0, 1) := by decide +kernel
theorem dX4_isMatter_6 : decode cX4_isMatter 6 = .ok (.getfield 72, 3) := by decide +kernel
theorem dX4_isMatter_9 : decode cX4_isMatter 9 = .ok (.if_icmp .ge 13, 3) := by decide +kernel
theorem dX4_isMatter_12 : decode cX4_isMatter 12 = .ok (.iload_n 1, 1) := by decide +kernel
theorem dX4_isMatter_13 : decode cX4_isMatter 13 = .ok (.bipush 6, 2) := by decide +kernel
theorem dX4_isMatter_15 : decode cX4_isMatter 15 = .ok (.if_icmp .ge 7, 3) := by decide +kernel
theorem dX4_isMatter_18 : decode cX4_isMatter 18 = .ok (.iconst 1, 1) := by decide +kernel
theorem dX4_isMatter_19 : decode cX4_isMatter 19 = .ok (.goto 4, 3) := by decide +kernel
theorem dX4_isMatter_22 : decode cX4_isMatter 22 = .ok (.iconst 0, 1) := by decide +kernel
theorem dX4_isMatter_23 : decode cX4_isMatter 23 = .ok (.ireturn, 1) := by decide +kernel
theorem dX4_couple_0 : decode cX4_couple 0 = .ok (.aload_n 0, 1) := by decide +kernel
theorem dX4_couple_1 : decode cX4_couple 1 = .ok (.iload_n 1, 1) := by decide +kernel
theorem dX4_couple_2 : decode cX4_couple 2 = .ok (.invokevirtual 81, 3) := by decide +kernel
theorem dX4_couple_5 : decode cX4_couple 5 = .ok (.ifCond .eq 24, 3) := by decide +kernel
theorem dX4_couple_8 : decode cX4_couple 8 = .ok (.aload_n 0, 1) := by decide +kernel
theorem dX4_couple_9 : decode cX4_couple 9 = .ok (.iload_n 2, 1) := by decide +kernel
theorem dX4_couple_10 : decode cX4_couple 10 = .ok (.invokevirtual 81, 3) := by decide +kernel
theorem dX4_couple_13 : decode cX4_couple 13 = .ok (.ifCond .eq 16, 3) := by decide +kernel
theorem dX4_couple_16 : decode cX4_couple 16 = .ok (.iload_n 1, 1) := by decide +kernel
theorem dX4_couple_17 : decode cX4_couple 17 = .ok (.iload_n 2, 1) := by decide +kernel
theorem dX4_couple_18 : decode cX4_couple 18 = .ok (.if_icmp .eq 11, 3) := by decide +kernel
theorem dX4_couple_21 : decode cX4_couple 21 = .ok (.aload_n 0, 1) := by decide +kernel
theorem dX4_couple_22 : decode cX4_couple 22 = .ok (.iload_n 3, 1) := by decide +kernel
theorem dX4_couple_23 : decode cX4_couple 23 = .ok (.invokevirtual 85, 3) := by decide +kernel
theorem dX4_couple_26 : decode cX4_couple 26 = .ok (.ifCond .ne 5, 3) := by decide +kernel
theorem dX4_couple_29 : decode cX4_couple 29 = .ok (.iconst (-1), 1) := by decide +kernel
theorem dX4_couple_30 : decode cX4_couple 30 = .ok (.ireturn, 1) := by decide +kernel
theorem dX4_couple_31 : decode cX4_couple 31 = .ok (.bipush 100, 2) := by decide +kernel
theorem dX4_couple_33 : decode cX4_couple 33 = .ok (.iload_n 1, 1) := by decide +kernel
theorem dX4_couple_34 : decode cX4_couple 34 = .ok (.imul, 1) := by decide +kernel
theorem dX4_couple_35 : decode cX4_couple 35 = .ok (.bipush 10, 2) := by decide +kernel
theorem dX4_couple_37 : decode cX4_couple 37 = .ok (.iload_n 2, 1) := by decide +kernel
theorem dX4_couple_38 : decode cX4_couple 38 = .ok (.imul, 1) := by decide +kernel
theorem dX4_couple_39 : decode cX4_couple 39 = .ok (.iadd, 1) := by decide +kernel
theorem dX4_couple_40 : decode cX4_couple 40 = .ok (.iload_n 3, 1) := by decide +kernel
theorem dX4_couple_41 : decode cX4_couple 41 = .ok (.iadd, 1) := by decide +kernel
theorem dX4_couple_42 : decode cX4_couple 42 = .ok (.ireturn, 1) := by decide +kernel
theorem dX4_isCouple_0 : decode cX4_isCouple 0 = .ok (.iload_n 1, 1) := by decide +kernel
theorem dX4_isCouple_1 : decode cX4_isCouple 1 = .ok (.ifCond .lt 30, 3) := by decide +kernel
theorem dX4_isCouple_4 : decode cX4_isCouple 4 = .ok (.aload_n 0, 1) := by decide +kernel
theorem dX4_isCouple_5 : decode cX4_isCouple 5 = .ok (.iload_n 1, 1) := by decide +kernel
theorem dX4_isCouple_6 : decode cX4_isCouple 6 = .ok (.bipush 100, 2) := by decide +kernel
theorem dX4_isCouple_8 : decode cX4_isCouple 8 = .ok (.idiv, 1) := by decide +kernel
theorem dX4_isCouple_9 : decode cX4_isCouple 9 = .ok (.iload_n 1, 1) := by decide +kernel
theorem dX4_isCouple_10 : decode cX4_isCouple 10 = .ok (.bipush 10, 2) := by decide +kernel
theorem dX4_isCouple_12 : decode cX4_isCouple 12 = .ok (.idiv, 1) := by decide +kernel
theorem dX4_isCouple_13 : decode cX4_isCouple 13 = .ok (.bipush 10, 2) := by decide +kernel
theorem dX4_isCouple_15 : decode cX4_isCouple 15 = .ok (.irem, 1) := by decide +kernel
theorem dX4_isCouple_16 : decode cX4_isCouple 16 = .ok (.iload_n 1, 1) := by decide +kernel
theorem dX4_isCouple_17 : decode cX4_isCouple 17 = .ok (.bipush 10, 2) := by decide +kernel
theorem dX4_isCouple_19 : decode cX4_isCouple 19 = .ok (.irem, 1) := by decide +kernel
theorem dX4_isCouple_20 : decode cX4_isCouple 20 = .ok (.invokevirtual 88, 3) := by decide +kernel
theorem dX4_isCouple_23 : decode cX4_isCouple 23 = .ok (.iload_n 1, 1) := by decide +kernel
theorem dX4_isCouple_24 : decode cX4_isCouple 24 = .ok (.if_icmp .ne 7, 3) := by decide +kernel
theorem dX4_isCouple_27 : decode cX4_isCouple 27 = .ok (.iconst 1, 1) := by decide +kernel
theorem dX4_isCouple_28 : decode cX4_isCouple 28 = .ok (.goto 4, 3) := by decide +kernel
theorem dX4_isCouple_31 : decode cX4_isCouple 31 = .ok (.iconst 0, 1) := by decide +kernel
theorem dX4_isCouple_32 : decode cX4_isCouple 32 = .ok (.ireturn, 1) := by decide +kernel
theorem dX4_otherEnd_0 : decode cX4_otherEnd 0 = .ok (.aload_n 0, 1) := by decide +kernel
theorem dX4_otherEnd_1 : decode cX4_otherEnd 1 = .ok (.iload_n 1, 1) := by decide +kernel
theorem dX4_otherEnd_2 : decode cX4_otherEnd 2 = .ok (.invokevirtual 92, 3) := by decide +kernel
theorem dX4_otherEnd_5 : decode cX4_otherEnd 5 = .ok (.ifCond .ne 5, 3) := by decide +kernel
theorem dX4_otherEnd_8 : decode cX4_otherEnd 8 = .ok (.iconst (-1), 1) := by decide +kernel
theorem dX4_otherEnd_9 : decode cX4_otherEnd 9 = .ok (.ireturn, 1) := by decide +kernel
theorem dX4_otherEnd_10 : decode cX4_otherEnd 10 = .ok (.aload_n 0, 1) := by decide +kernel
theorem dX4_otherEnd_11 : decode cX4_otherEnd 11 = .ok (.getfield 22, 3) := by decide +kernel
theorem dX4_otherEnd_14 : decode cX4_otherEnd 14 = .ok (.iload_n 1, 1) := by decide +kernel
theorem dX4_otherEnd_15 : decode cX4_otherEnd 15 = .ok (.iaload, 1) := by decide +kernel
theorem dX4_otherEnd_16 : decode cX4_otherEnd 16 = .ok (.iload_n 2, 1) := by decide +kernel
theorem dX4_otherEnd_17 : decode cX4_otherEnd 17 = .ok (.if_icmp .ne 10, 3) := by decide +kernel
theorem dX4_otherEnd_20 : decode cX4_otherEnd 20 = .ok (.aload_n 0, 1) := by decide +kernel
theorem dX4_otherEnd_21 : decode cX4_otherEnd 21 = .ok (.getfield 25, 3) := by decide +kernel
theorem dX4_otherEnd_24 : decode cX4_otherEnd 24 = .ok (.iload_n 1, 1) := by decide +kernel
theorem dX4_otherEnd_25 : decode cX4_otherEnd 25 = .ok (.iaload, 1) := by decide +kernel
theorem dX4_otherEnd_26 : decode cX4_otherEnd 26 = .ok (.ireturn, 1) := by decide +kernel
theorem dX4_otherEnd_27 : decode cX4_otherEnd 27 = .ok (.aload_n 0, 1) := by decide +kernel
theorem dX4_otherEnd_28 : decode cX4_otherEnd 28 = .ok (.getfield 25, 3) := by decide +kernel
theorem dX4_otherEnd_31 : decode cX4_otherEnd 31 = .ok (.iload_n 1, 1) := by decide +kernel
theorem dX4_otherEnd_32 : decode cX4_otherEnd 32 = .ok (.iaload, 1) := by decide +kernel
theorem dX4_otherEnd_33 : decode cX4_otherEnd 33 = .ok (.iload_n 2, 1) := by decide +kernel
theorem dX4_otherEnd_34 : decode cX4_otherEnd 34 = .ok (.if_icmp .ne 12, 3) := by decide +kernel
theorem dX4_otherEnd_37 : decode cX4_otherEnd 37 = .ok (.aload_n 0, 1) := by decide +kernel
theorem dX4_otherEnd_38 : decode cX4_otherEnd 38 = .ok (.getfield 22, 3) := by decide +kernel
theorem dX4_otherEnd_41 : decode cX4_otherEnd 41 = .ok (.iload_n 1, 1) := by decide +kernel
theorem dX4_otherEnd_42 : decode cX4_otherEnd 42 = .ok (.iaload, 1) := by decide +kernel
theorem dX4_otherEnd_43 : decode cX4_otherEnd 43 = .ok (.goto 4, 3) := by decide +kernel
theorem dX4_otherEnd_46 : decode cX4_otherEnd 46 = .ok (.iconst (-1), 1) := by decide +kernel
theorem dX4_otherEnd_47 : decode cX4_otherEnd 47 = .ok (.ireturn, 1) := by decide +kernel
theorem dX5_init_0 : decode cX5_init 0 = .ok (.aload_n 0, 1) := by decide +kernel
theorem dX5_init_1 : decode cX5_init 1 = .ok (.invokespecial 3, 3) := by decide +kernel
theorem dX5_init_4 : decode cX5_init 4 = .ok (.aload_n 0, 1) := by decide +kernel
theorem dX5_init_5 : decode cX5_init 5 = .ok (.aload_n 1, 1) := by decide +kernel
theorem dX5_init_6 : decode cX5_init 6 = .ok (.putfield 9, 3) := by decide +kernel
theorem dX5_init_9 : decode cX5_init 9 = .ok (.aload_n 0, 1) := by decide +kernel
theorem dX5_init_10 : decode cX5_init 10 = .ok (.new 15, 3) := by decide +kernel
theorem dX5_init_13 : decode cX5_init 13 = .ok (.dup, 1) := by decide +kernel
theorem dX5_init_14 : decode cX5_init 14 = .ok (.aload_n 1, 1) := by decide +kernel
theorem dX5_init_15 : decode cX5_init 15 = .ok (.invokespecial 17, 3) := by decide +kernel
theorem dX5_init_18 : decode cX5_init 18 = .ok (.putfield 20, 3) := by decide +kernel
theorem dX5_init_21 : decode cX5_init 21 = .ok (.aload_n 0, 1) := by decide +kernel
theorem dX5_init_22 : decode cX5_init 22 = .ok (.iconst 0, 1) := by decide +kernel
theorem dX5_init_23 : decode cX5_init 23 = .ok (.putfield 24, 3) := by decide +kernel
theorem dX5_init_26 : decode cX5_init 26 = .ok (.aload_n 0, 1) := by decide +kernel
theorem dX5_init_27 : decode cX5_init 27 = .ok (.iconst (-1), 1) := by decide +kernel
theorem dX5_init_28 : decode cX5_init 28 = .ok (.putfield 28, 3) := by decide +kernel
theorem dX5_init_31 : decode cX5_init 31 = .ok (.return_, 1) := by decide +kernel
theorem dX5_readLand_0 : decode cX5_readLand 0 = .ok (.aload_n 1, 1) := by decide +kernel
theorem dX5_readLand_1 : decode cX5_readLand 1 = .ok (.invokevirtual 31, 3) := by decide +kernel
theorem dX5_readLand_4 : decode cX5_readLand 4 = .ok (.aload_n 0, 1) := by decide +kernel
theorem dX5_readLand_5 : decode cX5_readLand 5 = .ok (.iconst 0, 1) := by decide +kernel
theorem dX5_readLand_6 : decode cX5_readLand 6 = .ok (.putfield 24, 3) := by decide +kernel
theorem dX5_readLand_9 : decode cX5_readLand 9 = .ok (.aload_n 0, 1) := by decide +kernel
theorem dX5_readLand_10 : decode cX5_readLand 10 = .ok (.iconst (-1), 1) := by decide +kernel
theorem dX5_readLand_11 : decode cX5_readLand 11 = .ok (.putfield 28, 3) := by decide +kernel
theorem dX5_readLand_14 : decode cX5_readLand 14 = .ok (.aload_n 0, 1) := by decide +kernel
theorem dX5_readLand_15 : decode cX5_readLand 15 = .ok (.iconst 0, 1) := by decide +kernel
theorem dX5_readLand_16 : decode cX5_readLand 16 = .ok (.putfield 36, 3) := by decide +kernel
theorem dX5_readLand_19 : decode cX5_readLand 19 = .ok (.aload_n 0, 1) := by decide +kernel
theorem dX5_readLand_20 : decode cX5_readLand 20 = .ok (.getfield 9, 3) := by decide +kernel
theorem dX5_readLand_23 : decode cX5_readLand 23 = .ok (.iload_n 2, 1) := by decide +kernel
theorem dX5_readLand_24 : decode cX5_readLand 24 = .ok (.invokevirtual 40, 3) := by decide +kernel
theorem dX5_readLand_27 : decode cX5_readLand 27 = .ok (.iconst 1, 1) := by decide +kernel
theorem dX5_readLand_28 : decode cX5_readLand 28 = .ok (.istore_n 3, 1) := by decide +kernel
theorem dX5_readLand_29 : decode cX5_readLand 29 = .ok (.iconst 0, 1) := by decide +kernel
theorem dX5_readLand_30 : decode cX5_readLand 30 = .ok (.istore 4, 2) := by decide +kernel
theorem dX5_readLand_32 : decode cX5_readLand 32 = .ok (.iload 4, 2) := by decide +kernel
theorem dX5_readLand_34 : decode cX5_readLand 34 = .ok (.sipush 1600, 3) := by decide +kernel
theorem dX5_readLand_37 : decode cX5_readLand 37 = .ok (.if_icmp .gt 198, 3) := by decide +kernel
theorem dX5_readLand_40 : decode cX5_readLand 40 = .ok (.iload_n 3, 1) := by decide +kernel
theorem dX5_readLand_41 : decode cX5_readLand 41 = .ok (.ifCond .eq 194, 3) := by decide +kernel
theorem dX5_readLand_44 : decode cX5_readLand 44 = .ok (.aload_n 0, 1) := by decide +kernel
theorem dX5_readLand_45 : decode cX5_readLand 45 = .ok (.getfield 9, 3) := by decide +kernel
theorem dX5_readLand_48 : decode cX5_readLand 48 = .ok (.getfield 46, 3) := by decide +kernel
theorem dX5_readLand_51 : decode cX5_readLand 51 = .ok (.ifCond .eq 184, 3) := by decide +kernel
theorem dX5_readLand_54 : decode cX5_readLand 54 = .ok (.aload_n 0, 1) := by decide +kernel
theorem dX5_readLand_55 : decode cX5_readLand 55 = .ok (.getfield 9, 3) := by decide +kernel
theorem dX5_readLand_58 : decode cX5_readLand 58 = .ok (.getfield 46, 3) := by decide +kernel
theorem dX5_readLand_61 : decode cX5_readLand 61 = .ok (.tableswitch 144 256 270 #[75, 144, 144, 84, 144, 144, 93, 144, 144, 102, 144, 144, 111, 123, 135], 75) := by decide +kernel
theorem dX5_readLand_136 : decode cX5_readLand 136 = .ok (.aload_n 0, 1) := by decide +kernel
theorem dX5_readLand_137 : decode cX5_readLand 137 = .ok (.aload_n 1, 1) := by decide +kernel
theorem dX5_readLand_138 : decode cX5_readLand 138 = .ok (.invokevirtual 49, 3) := by decide +kernel
theorem dX5_readLand_141 : decode cX5_readLand 141 = .ok (.istore_n 3, 1) := by decide +kernel
theorem dX5_readLand_142 : decode cX5_readLand 142 = .ok (.goto 68, 3) := by decide +kernel
theorem dX5_readLand_145 : decode cX5_readLand 145 = .ok (.aload_n 0, 1) := by decide +kernel
theorem dX5_readLand_146 : decode cX5_readLand 146 = .ok (.aload_n 1, 1) := by decide +kernel
theorem dX5_readLand_147 : decode cX5_readLand 147 = .ok (.invokevirtual 53, 3) := by decide +kernel
theorem dX5_readLand_150 : decode cX5_readLand 150 = .ok (.istore_n 3, 1) := by decide +kernel
theorem dX5_readLand_151 : decode cX5_readLand 151 = .ok (.goto 59, 3) := by decide +kernel
theorem dX5_readLand_154 : decode cX5_readLand 154 = .ok (.aload_n 0, 1) := by decide +kernel
theorem dX5_readLand_155 : decode cX5_readLand 155 = .ok (.aload_n 1, 1) := by decide +kernel
theorem dX5_readLand_156 : decode cX5_readLand 156 = .ok (.invokevirtual 56, 3) := by decide +kernel
theorem dX5_readLand_159 : decode cX5_readLand 159 = .ok (.istore_n 3, 1) := by decide +kernel
theorem dX5_readLand_160 : decode cX5_readLand 160 = .ok (.goto 50, 3) := by decide +kernel
theorem dX5_readLand_163 : decode cX5_readLand 163 = .ok (.aload_n 0, 1) := by decide +kernel
theorem dX5_readLand_164 : decode cX5_readLand 164 = .ok (.aload_n 1, 1) := by decide +kernel
theorem dX5_readLand_165 : decode cX5_readLand 165 = .ok (.invokevirtual 59, 3) := by decide +kernel
theorem dX5_readLand_168 : decode cX5_readLand 168 = .ok (.istore_n 3, 1) := by decide +kernel
theorem dX5_readLand_169 : decode cX5_readLand 169 = .ok (.goto 41, 3) := by decide +kernel
theorem dX5_readLand_172 : decode cX5_readLand 172 = .ok (.aload_n 0, 1) := by decide +kernel
theorem dX5_readLand_173 : decode cX5_readLand 173 = .ok (.aload_n 1, 1) := by decide +kernel
theorem dX5_readLand_174 : decode cX5_readLand 174 = .ok (.getfield 62, 3) := by decide +kernel
theorem dX5_readLand_177 : decode cX5_readLand 177 = .ok (.invokevirtual 66, 3) := by decide +kernel
theorem dX5_readLand_180 : decode cX5_readLand 180 = .ok (.istore_n 3, 1) := by decide +kernel
theorem dX5_readLand_181 : decode cX5_readLand 181 = .ok (.goto 29, 3) := by decide +kernel
theorem dX5_readLand_184 : decode cX5_readLand 184 = .ok (.aload_n 0, 1) := by decide +kernel
theorem dX5_readLand_185 : decode cX5_readLand 185 = .ok (.aload_n 1, 1) := by decide +kernel
theorem dX5_readLand_186 : decode cX5_readLand 186 = .ok (.getfield 70, 3) := by decide +kernel
theorem dX5_readLand_189 : decode cX5_readLand 189 = .ok (.invokevirtual 66, 3) := by decide +kernel
theorem dX5_readLand_192 : decode cX5_readLand 192 = .ok (.istore_n 3, 1) := by decide +kernel
theorem dX5_readLand_193 : decode cX5_readLand 193 = .ok (.goto 17, 3) := by decide +kernel
theorem dX5_readLand_196 : decode cX5_readLand 196 = .ok (.aload_n 0, 1) := by decide +kernel
theorem dX5_readLand_197 : decode cX5_readLand 197 = .ok (.aload_n 1, 1) := by decide +kernel
theorem dX5_readLand_198 : decode cX5_readLand 198 = .ok (.invokevirtual 73, 3) := by decide +kernel
theorem dX5_readLand_201 : decode cX5_readLand 201 = .ok (.istore_n 3, 1) := by decide +kernel
theorem dX5_readLand_202 : decode cX5_readLand 202 = .ok (.goto 8, 3) := by decide +kernel
theorem dX5_readLand_205 : decode cX5_readLand 205 = .ok (.aload_n 0, 1) := by decide +kernel
theorem dX5_readLand_206 : decode cX5_readLand 206 = .ok (.invokevirtual 76, 3) := by decide +kernel
theorem dX5_readLand_209 : decode cX5_readLand 209 = .ok (.istore_n 3, 1) := by decide +kernel
theorem dX5_readLand_210 : decode cX5_readLand 210 = .ok (.iload_n 3, 1) := by decide +kernel
theorem dX5_readLand_211 : decode cX5_readLand 211 = .ok (.ifCond .eq 16, 3) := by decide +kernel
theorem dX5_readLand_214 : decode cX5_readLand 214 = .ok (.aload_n 0, 1) := by decide +kernel
theorem dX5_readLand_215 : decode cX5_readLand 215 = .ok (.bipush 59, 2) := by decide +kernel
theorem dX5_readLand_217 : decode cX5_readLand 217 = .ok (.invokevirtual 80, 3) := by decide +kernel
theorem dX5_readLand_220 : decode cX5_readLand 220 = .ok (.ifCond .eq 7, 3) := by decide +kernel
theorem dX5_readLand_223 : decode cX5_readLand 223 = .ok (.iconst 1, 1) := by decide +kernel
theorem dX5_readLand_224 : decode cX5_readLand 224 = .ok (.goto 4, 3) := by decide +kernel
theorem dX5_readLand_227 : decode cX5_readLand 227 = .ok (.iconst 0, 1) := by decide +kernel
theorem dX5_readLand_228 : decode cX5_readLand 228 = .ok (.istore_n 3, 1) := by decide +kernel
theorem dX5_readLand_229 : decode cX5_readLand 229 = .ok (.iinc 4 1, 3) := by decide +kernel
theorem dX5_readLand_232 : decode cX5_readLand 232 = .ok (.goto (-200), 3) := by decide +kernel
theorem dX5_readLand_235 : decode cX5_readLand 235 = .ok (.iload_n 3, 1) := by decide +kernel
theorem dX5_readLand_236 : decode cX5_readLand 236 = .ok (.ireturn, 1) := by decide +kernel
theorem dX5_readPlace_0 : decode cX5_readPlace 0 = .ok (.aload_n 1, 1) := by decide +kernel
theorem dX5_readPlace_1 : decode cX5_readPlace 1 = .ok (.getfield 84, 3) := by decide +kernel
theorem dX5_readPlace_4 : decode cX5_readPlace 4 = .ok (.istore_n 2, 1) := by decide +kernel
theorem dX5_readPlace_5 : decode cX5_readPlace 5 = .ok (.iload_n 2, 1) := by decide +kernel
theorem dX5_readPlace_6 : decode cX5_readPlace 6 = .ok (.ifCond .lt 9, 3) := by decide +kernel
theorem dX5_readPlace_9 : decode cX5_readPlace 9 = .ok (.iload_n 2, 1) := by decide +kernel
theorem dX5_readPlace_10 : decode cX5_readPlace 10 = .ok (.bipush 8, 2) := by decide +kernel
theorem dX5_readPlace_12 : decode cX5_readPlace 12 = .ok (.if_icmp .lt 8, 3) := by decide +kernel
theorem dX5_readPlace_15 : decode cX5_readPlace 15 = .ok (.aload_n 0, 1) := by decide +kernel
theorem dX5_readPlace_16 : decode cX5_readPlace 16 = .ok (.invokevirtual 76, 3) := by decide +kernel
theorem dX5_readPlace_19 : decode cX5_readPlace 19 = .ok (.ireturn, 1) := by decide +kernel
theorem dX5_readPlace_20 : decode cX5_readPlace 20 = .ok (.aload_n 0, 1) := by decide +kernel
theorem dX5_readPlace_21 : decode cX5_readPlace 21 = .ok (.getfield 9, 3) := by decide +kernel
theorem dX5_readPlace_24 : decode cX5_readPlace 24 = .ok (.invokevirtual 87, 3) := by decide +kernel
theorem dX5_readPlace_27 : decode cX5_readPlace 27 = .ok (.aload_n 0, 1) := by decide +kernel
theorem dX5_readPlace_28 : decode cX5_readPlace 28 = .ok (.aload_n 1, 1) := by decide +kernel
theorem dX5_readPlace_29 : decode cX5_readPlace 29 = .ok (.getfield 90, 3) := by decide +kernel
theorem dX5_readPlace_32 : decode cX5_readPlace 32 = .ok (.iload_n 2, 1) := by decide +kernel
theorem dX5_readPlace_33 : decode cX5_readPlace 33 = .ok (.invokevirtual 94, 3) := by decide +kernel
theorem dX5_readPlace_36 : decode cX5_readPlace 36 = .ok (.ifCond .ne 5, 3) := by decide +kernel
theorem dX5_readPlace_39 : decode cX5_readPlace 39 = .ok (.iconst 0, 1) := by decide +kernel
theorem dX5_readPlace_40 : decode cX5_readPlace 40 = .ok (.ireturn, 1) := by decide +kernel
theorem dX5_readPlace_41 : decode cX5_readPlace 41 = .ok (.aload_n 1, 1) := by decide +kernel
theorem dX5_readPlace_42 : decode cX5_readPlace 42 = .ok (.getfield 98, 3) := by decide +kernel
theorem dX5_readPlace_45 : decode cX5_readPlace 45 = .ok (.iload_n 2, 1) := by decide +kernel
theorem dX5_readPlace_46 : decode cX5_readPlace 46 = .ok (.iconst 0, 1) := by decide +kernel
theorem dX5_readPlace_47 : decode cX5_readPlace 47 = .ok (.iastore, 1) := by decide +kernel
theorem dX5_readPlace_48 : decode cX5_readPlace 48 = .ok (.aload_n 1, 1) := by decide +kernel
theorem dX5_readPlace_49 : decode cX5_readPlace 49 = .ok (.getfield 102, 3) := by decide +kernel
theorem dX5_readPlace_52 : decode cX5_readPlace 52 = .ok (.iload_n 2, 1) := by decide +kernel
theorem dX5_readPlace_53 : decode cX5_readPlace 53 = .ok (.iconst 0, 1) := by decide +kernel
theorem dX5_readPlace_54 : decode cX5_readPlace 54 = .ok (.iastore, 1) := by decide +kernel
theorem dX5_readPlace_55 : decode cX5_readPlace 55 = .ok (.aload_n 0, 1) := by decide +kernel
theorem dX5_readPlace_56 : decode cX5_readPlace 56 = .ok (.getfield 9, 3) := by decide +kernel
theorem dX5_readPlace_59 : decode cX5_readPlace 59 = .ok (.getfield 46, 3) := by decide +kernel
theorem dX5_readPlace_62 : decode cX5_readPlace 62 = .ok (.sipush 257, 3) := by decide +kernel
theorem dX5_readPlace_65 : decode cX5_readPlace 65 = .ok (.if_icmp .ne 28, 3) := by decide +kernel
theorem dX5_readPlace_68 : decode cX5_readPlace 68 = .ok (.aload_n 0, 1) := by decide +kernel
theorem dX5_readPlace_69 : decode cX5_readPlace 69 = .ok (.sipush 257, 3) := by decide +kernel
theorem dX5_readPlace_72 : decode cX5_readPlace 72 = .ok (.iconst 0, 1) := by decide +kernel
theorem dX5_readPlace_73 : decode cX5_readPlace 73 = .ok (.bipush 9, 2) := by decide +kernel
theorem dX5_readPlace_75 : decode cX5_readPlace 75 = .ok (.invokevirtual 105, 3) := by decide +kernel
theorem dX5_readPlace_78 : decode cX5_readPlace 78 = .ok (.ifCond .ne 5, 3) := by decide +kernel
theorem dX5_readPlace_81 : decode cX5_readPlace 81 = .ok (.iconst 0, 1) := by decide +kernel
theorem dX5_readPlace_82 : decode cX5_readPlace 82 = .ok (.ireturn, 1) := by decide +kernel
theorem dX5_readPlace_83 : decode cX5_readPlace 83 = .ok (.aload_n 1, 1) := by decide +kernel
theorem dX5_readPlace_84 : decode cX5_readPlace 84 = .ok (.getfield 98, 3) := by decide +kernel
theorem dX5_readPlace_87 : decode cX5_readPlace 87 = .ok (.iload_n 2, 1) := by decide +kernel
theorem dX5_readPlace_88 : decode cX5_readPlace 88 = .ok (.aload_n 0, 1) := by decide +kernel
theorem dX5_readPlace_89 : decode cX5_readPlace 89 = .ok (.getfield 109, 3) := by decide +kernel
theorem dX5_readPlace_92 : decode cX5_readPlace 92 = .ok (.iastore, 1) := by decide +kernel
theorem dX5_readPlace_93 : decode cX5_readPlace 93 = .ok (.aload_n 0, 1) := by decide +kernel
theorem dX5_readPlace_94 : decode cX5_readPlace 94 = .ok (.getfield 9, 3) := by decide +kernel
theorem dX5_readPlace_97 : decode cX5_readPlace 97 = .ok (.getfield 46, 3) := by decide +kernel
theorem dX5_readPlace_100 : decode cX5_readPlace 100 = .ok (.sipush 258, 3) := by decide +kernel
theorem dX5_readPlace_103 : decode cX5_readPlace 103 = .ok (.if_icmp .ne 28, 3) := by decide +kernel
theorem dX5_readPlace_106 : decode cX5_readPlace 106 = .ok (.aload_n 0, 1) := by decide +kernel
theorem dX5_readPlace_107 : decode cX5_readPlace 107 = .ok (.sipush 258, 3) := by decide +kernel
theorem dX5_readPlace_110 : decode cX5_readPlace 110 = .ok (.iconst 0, 1) := by decide +kernel
theorem dX5_readPlace_111 : decode cX5_readPlace 111 = .ok (.bipush 9, 2) := by decide +kernel
theorem dX5_readPlace_113 : decode cX5_readPlace 113 = .ok (.invokevirtual 105, 3) := by decide +kernel
theorem dX5_readPlace_116 : decode cX5_readPlace 116 = .ok (.ifCond .ne 5, 3) := by decide +kernel
theorem dX5_readPlace_119 : decode cX5_readPlace 119 = .ok (.iconst 0, 1) := by decide +kernel
theorem dX5_readPlace_120 : decode cX5_readPlace 120 = .ok (.ireturn, 1) := by decide +kernel
theorem dX5_readPlace_121 : decode cX5_readPlace 121 = .ok (.aload_n 1, 1) := by decide +kernel
theorem dX5_readPlace_122 : decode cX5_readPlace 122 = .ok (.getfield 102, 3) := by decide +kernel
theorem dX5_readPlace_125 : decode cX5_readPlace 125 = .ok (.iload_n 2, 1) := by decide +kernel
theorem dX5_readPlace_126 : decode cX5_readPlace 126 = .ok (.aload_n 0, 1) := by decide +kernel
theorem dX5_readPlace_127 : decode cX5_readPlace 127 = .ok (.getfield 109, 3) := by decide +kernel
theorem dX5_readPlace_130 : decode cX5_readPlace 130 = .ok (.iastore, 1) := by decide +kernel
theorem dX5_readPlace_131 : decode cX5_readPlace 131 = .ok (.aload_n 1, 1) := by decide +kernel
theorem dX5_readPlace_132 : decode cX5_readPlace 132 = .ok (.dup, 1) := by decide +kernel
theorem dX5_readPlace_133 : decode cX5_readPlace 133 = .ok (.getfield 84, 3) := by decide +kernel
theorem dX5_readPlace_136 : decode cX5_readPlace 136 = .ok (.iconst 1, 1) := by decide +kernel
theorem dX5_readPlace_137 : decode cX5_readPlace 137 = .ok (.iadd, 1) := by decide +kernel
theorem dX5_readPlace_138 : decode cX5_readPlace 138 = .ok (.putfield 84, 3) := by decide +kernel
theorem dX5_readPlace_141 : decode cX5_readPlace 141 = .ok (.iconst 1, 1) := by decide +kernel
theorem dX5_readPlace_142 : decode cX5_readPlace 142 = .ok (.ireturn, 1) := by decide +kernel
theorem dX5_readWay_0 : decode cX5_readWay 0 = .ok (.aload_n 1, 1) := by decide +kernel
theorem dX5_readWay_1 : decode cX5_readWay 1 = .ok (.getfield 112, 3) := by decide +kernel
theorem dX5_readWay_4 : decode cX5_readWay 4 = .ok (.istore_n 2, 1) := by decide +kernel
theorem dX5_readWay_5 : decode cX5_readWay 5 = .ok (.iload_n 2, 1) := by decide +kernel
theorem dX5_readWay_6 : decode cX5_readWay 6 = .ok (.ifCond .lt 9, 3) := by decide +kernel
theorem dX5_readWay_9 : decode cX5_readWay 9 = .ok (.iload_n 2, 1) := by decide +kernel
theorem dX5_readWay_10 : decode cX5_readWay 10 = .ok (.bipush 14, 2) := by decide +kernel
theorem dX5_readWay_12 : decode cX5_readWay 12 = .ok (.if_icmp .lt 8, 3) := by decide +kernel
theorem dX5_readWay_15 : decode cX5_readWay 15 = .ok (.aload_n 0, 1) := by decide +kernel
theorem dX5_readWay_16 : decode cX5_readWay 16 = .ok (.invokevirtual 76, 3) := by decide +kernel
theorem dX5_readWay_19 : decode cX5_readWay 19 = .ok (.ireturn, 1) := by decide +kernel
theorem dX5_readWay_20 : decode cX5_readWay 20 = .ok (.aload_n 0, 1) := by decide +kernel
theorem dX5_readWay_21 : decode cX5_readWay 21 = .ok (.getfield 9, 3) := by decide +kernel
theorem dX5_readWay_24 : decode cX5_readWay 24 = .ok (.invokevirtual 87, 3) := by decide +kernel
theorem dX5_readWay_27 : decode cX5_readWay 27 = .ok (.aload_n 0, 1) := by decide +kernel
theorem dX5_readWay_28 : decode cX5_readWay 28 = .ok (.aload_n 1, 1) := by decide +kernel
theorem dX5_readWay_29 : decode cX5_readWay 29 = .ok (.iconst (-1), 1) := by decide +kernel
theorem dX5_readWay_30 : decode cX5_readWay 30 = .ok (.invokevirtual 115, 3) := by decide +kernel
theorem dX5_readWay_33 : decode cX5_readWay 33 = .ok (.ifCond .ne 5, 3) := by decide +kernel
theorem dX5_readWay_36 : decode cX5_readWay 36 = .ok (.iconst 0, 1) := by decide +kernel
theorem dX5_readWay_37 : decode cX5_readWay 37 = .ok (.ireturn, 1) := by decide +kernel
theorem dX5_readWay_38 : decode cX5_readWay 38 = .ok (.aload_n 1, 1) := by decide +kernel
theorem dX5_readWay_39 : decode cX5_readWay 39 = .ok (.getfield 119, 3) := by decide +kernel
theorem dX5_readWay_42 : decode cX5_readWay 42 = .ok (.iload_n 2, 1) := by decide +kernel
theorem dX5_readWay_43 : decode cX5_readWay 43 = .ok (.aload_n 0, 1) := by decide +kernel
theorem dX5_readWay_44 : decode cX5_readWay 44 = .ok (.getfield 109, 3) := by decide +kernel
theorem dX5_readWay_47 : decode cX5_readWay 47 = .ok (.iastore, 1) := by decide +kernel
theorem dX5_readWay_48 : decode cX5_readWay 48 = .ok (.aload_n 0, 1) := by decide +kernel
theorem dX5_readWay_49 : decode cX5_readWay 49 = .ok (.sipush 260, 3) := by decide +kernel
theorem dX5_readWay_52 : decode cX5_readWay 52 = .ok (.invokevirtual 80, 3) := by decide +kernel
theorem dX5_readWay_55 : decode cX5_readWay 55 = .ok (.ifCond .eq 17, 3) := by decide +kernel
theorem dX5_readWay_58 : decode cX5_readWay 58 = .ok (.aload_n 0, 1) := by decide +kernel
theorem dX5_readWay_59 : decode cX5_readWay 59 = .ok (.aload_n 1, 1) := by decide +kernel
theorem dX5_readWay_60 : decode cX5_readWay 60 = .ok (.aload_n 1, 1) := by decide +kernel
theorem dX5_readWay_61 : decode cX5_readWay 61 = .ok (.getfield 119, 3) := by decide +kernel
theorem dX5_readWay_64 : decode cX5_readWay 64 = .ok (.iload_n 2, 1) := by decide +kernel
theorem dX5_readWay_65 : decode cX5_readWay 65 = .ok (.iaload, 1) := by decide +kernel
theorem dX5_readWay_66 : decode cX5_readWay 66 = .ok (.invokevirtual 115, 3) := by decide +kernel
theorem dX5_readWay_69 : decode cX5_readWay 69 = .ok (.ifCond .ne 5, 3) := by decide +kernel
theorem dX5_readWay_72 : decode cX5_readWay 72 = .ok (.iconst 0, 1) := by decide +kernel
theorem dX5_readWay_73 : decode cX5_readWay 73 = .ok (.ireturn, 1) := by decide +kernel
theorem dX5_readWay_74 : decode cX5_readWay 74 = .ok (.aload_n 1, 1) := by decide +kernel
theorem dX5_readWay_75 : decode cX5_readWay 75 = .ok (.getfield 122, 3) := by decide +kernel
theorem dX5_readWay_78 : decode cX5_readWay 78 = .ok (.iload_n 2, 1) := by decide +kernel
theorem dX5_readWay_79 : decode cX5_readWay 79 = .ok (.aload_n 0, 1) := by decide +kernel
theorem dX5_readWay_80 : decode cX5_readWay 80 = .ok (.getfield 109, 3) := by decide +kernel
theorem dX5_readWay_83 : decode cX5_readWay 83 = .ok (.iastore, 1) := by decide +kernel
theorem dX5_readWay_84 : decode cX5_readWay 84 = .ok (.aload_n 0, 1) := by decide +kernel
theorem dX5_readWay_85 : decode cX5_readWay 85 = .ok (.iconst 1, 1) := by decide +kernel
theorem dX5_readWay_86 : decode cX5_readWay 86 = .ok (.bipush 40, 2) := by decide +kernel
theorem dX5_readWay_88 : decode cX5_readWay 88 = .ok (.invokevirtual 125, 3) := by decide +kernel
theorem dX5_readWay_91 : decode cX5_readWay 91 = .ok (.ifCond .ne 5, 3) := by decide +kernel
theorem dX5_readWay_94 : decode cX5_readWay 94 = .ok (.iconst 0, 1) := by decide +kernel
theorem dX5_readWay_95 : decode cX5_readWay 95 = .ok (.ireturn, 1) := by decide +kernel
theorem dX5_readWay_96 : decode cX5_readWay 96 = .ok (.aload_n 1, 1) := by decide +kernel
theorem dX5_readWay_97 : decode cX5_readWay 97 = .ok (.getfield 129, 3) := by decide +kernel
theorem dX5_readWay_100 : decode cX5_readWay 100 = .ok (.iload_n 2, 1) := by decide +kernel
theorem dX5_readWay_101 : decode cX5_readWay 101 = .ok (.aload_n 0, 1) := by decide +kernel
theorem dX5_readWay_102 : decode cX5_readWay 102 = .ok (.getfield 109, 3) := by decide +kernel
theorem dX5_readWay_105 : decode cX5_readWay 105 = .ok (.iastore, 1) := by decide +kernel
theorem dX5_readWay_106 : decode cX5_readWay 106 = .ok (.aload_n 1, 1) := by decide +kernel
theorem dX5_readWay_107 : decode cX5_readWay 107 = .ok (.getfield 132, 3) := by decide +kernel
theorem dX5_readWay_110 : decode cX5_readWay 110 = .ok (.iload_n 2, 1) := by decide +kernel
theorem dX5_readWay_111 : decode cX5_readWay 111 = .ok (.iconst 0, 1) := by decide +kernel
theorem dX5_readWay_112 : decode cX5_readWay 112 = .ok (.iastore, 1) := by decide +kernel
theorem dX5_readWay_113 : decode cX5_readWay 113 = .ok (.aload_n 0, 1) := by decide +kernel
theorem dX5_readWay_114 : decode cX5_readWay 114 = .ok (.getfield 9, 3) := by decide +kernel
theorem dX5_readWay_117 : decode cX5_readWay 117 = .ok (.getfield 46, 3) := by decide +kernel
theorem dX5_readWay_120 : decode cX5_readWay 120 = .ok (.sipush 261, 3) := by decide +kernel
theorem dX5_readWay_123 : decode cX5_readWay 123 = .ok (.if_icmp .ne 29, 3) := by decide +kernel
theorem dX5_readWay_126 : decode cX5_readWay 126 = .ok (.aload_n 0, 1) := by decide +kernel
theorem dX5_readWay_127 : decode cX5_readWay 127 = .ok (.getfield 9, 3) := by decide +kernel
theorem dX5_readWay_130 : decode cX5_readWay 130 = .ok (.invokevirtual 87, 3) := by decide +kernel
theorem dX5_readWay_133 : decode cX5_readWay 133 = .ok (.aload_n 0, 1) := by decide +kernel
theorem dX5_readWay_134 : decode cX5_readWay 134 = .ok (.invokevirtual 135, 3) := by decide +kernel
theorem dX5_readWay_137 : decode cX5_readWay 137 = .ok (.ifCond .ne 5, 3) := by decide +kernel
theorem dX5_readWay_140 : decode cX5_readWay 140 = .ok (.iconst 0, 1) := by decide +kernel
theorem dX5_readWay_141 : decode cX5_readWay 141 = .ok (.ireturn, 1) := by decide +kernel
theorem dX5_readWay_142 : decode cX5_readWay 142 = .ok (.aload_n 1, 1) := by decide +kernel
theorem dX5_readWay_143 : decode cX5_readWay 143 = .ok (.getfield 132, 3) := by decide +kernel
theorem dX5_readWay_146 : decode cX5_readWay 146 = .ok (.iload_n 2, 1) := by decide +kernel
theorem dX5_readWay_147 : decode cX5_readWay 147 = .ok (.aload_n 0, 1) := by decide +kernel
theorem dX5_readWay_148 : decode cX5_readWay 148 = .ok (.getfield 109, 3) := by decide +kernel
theorem dX5_readWay_151 : decode cX5_readWay 151 = .ok (.iastore, 1) := by decide +kernel
theorem dX5_readWay_152 : decode cX5_readWay 152 = .ok (.aload_n 1, 1) := by decide +kernel
theorem dX5_readWay_153 : decode cX5_readWay 153 = .ok (.dup, 1) := by decide +kernel
theorem dX5_readWay_154 : decode cX5_readWay 154 = .ok (.getfield 112, 3) := by decide +kernel
theorem dX5_readWay_157 : decode cX5_readWay 157 = .ok (.iconst 1, 1) := by decide +kernel
theorem dX5_readWay_158 : decode cX5_readWay 158 = .ok (.iadd, 1) := by decide +kernel
theorem dX5_readWay_159 : decode cX5_readWay 159 = .ok (.putfield 112, 3) := by decide +kernel
theorem dX5_readWay_162 : decode cX5_readWay 162 = .ok (.iconst 1, 1) := by decide +kernel
theorem dX5_readWay_163 : decode cX5_readWay 163 = .ok (.ireturn, 1) := by decide +kernel
theorem dX5_readSight_0 : decode cX5_readSight 0 = .ok (.aload_n 0, 1) := by decide +kernel
theorem dX5_readSight_1 : decode cX5_readSight 1 = .ok (.getfield 9, 3) := by decide +kernel
theorem dX5_readSight_4 : decode cX5_readSight 4 = .ok (.getfield 138, 3) := by decide +kernel
theorem dX5_readSight_7 : decode cX5_readSight 7 = .ok (.istore_n 1, 1) := by decide +kernel
theorem dX5_readSight_8 : decode cX5_readSight 8 = .ok (.aload_n 0, 1) := by decide +kernel
theorem dX5_readSight_9 : decode cX5_readSight 9 = .ok (.getfield 9, 3) := by decide +kernel
theorem dX5_readSight_12 : decode cX5_readSight 12 = .ok (.getfield 46, 3) := by decide +kernel
theorem dX5_readSight_15 : decode cX5_readSight 15 = .ok (.bipush 45, 2) := by decide +kernel
theorem dX5_readSight_17 : decode cX5_readSight 17 = .ok (.if_icmp .ne 7, 3) := by decide +kernel
theorem dX5_readSight_20 : decode cX5_readSight 20 = .ok (.iconst 1, 1) := by decide +kernel
theorem dX5_readSight_21 : decode cX5_readSight 21 = .ok (.goto 4, 3) := by decide +kernel
theorem dX5_readSight_24 : decode cX5_readSight 24 = .ok (.iconst 0, 1) := by decide +kernel
theorem dX5_readSight_25 : decode cX5_readSight 25 = .ok (.istore_n 2, 1) := by decide +kernel
theorem dX5_readSight_26 : decode cX5_readSight 26 = .ok (.iload_n 2, 1) := by decide +kernel
theorem dX5_readSight_27 : decode cX5_readSight 27 = .ok (.ifCond .eq 10, 3) := by decide +kernel
theorem dX5_readSight_30 : decode cX5_readSight 30 = .ok (.aload_n 0, 1) := by decide +kernel
theorem dX5_readSight_31 : decode cX5_readSight 31 = .ok (.getfield 9, 3) := by decide +kernel
theorem dX5_readSight_34 : decode cX5_readSight 34 = .ok (.invokevirtual 87, 3) := by decide +kernel
theorem dX5_readSight_37 : decode cX5_readSight 37 = .ok (.aload_n 0, 1) := by decide +kernel
theorem dX5_readSight_38 : decode cX5_readSight 38 = .ok (.getfield 9, 3) := by decide +kernel
theorem dX5_readSight_41 : decode cX5_readSight 41 = .ok (.getfield 46, 3) := by decide +kernel
theorem dX5_readSight_44 : decode cX5_readSight 44 = .ok (.iconst 2, 1) := by decide +kernel
theorem dX5_readSight_45 : decode cX5_readSight 45 = .ok (.if_icmp .eq 8, 3) := by decide +kernel
theorem dX5_readSight_48 : decode cX5_readSight 48 = .ok (.aload_n 0, 1) := by decide +kernel
theorem dX5_readSight_49 : decode cX5_readSight 49 = .ok (.invokevirtual 76, 3) := by decide +kernel
theorem dX5_readSight_52 : decode cX5_readSight 52 = .ok (.ireturn, 1) := by decide +kernel
theorem dX5_readSight_53 : decode cX5_readSight 53 = .ok (.aload_n 0, 1) := by decide +kernel
theorem dX5_readSight_54 : decode cX5_readSight 54 = .ok (.getfield 9, 3) := by decide +kernel
theorem dX5_readSight_57 : decode cX5_readSight 57 = .ok (.getfield 141, 3) := by decide +kernel
theorem dX5_readSight_60 : decode cX5_readSight 60 = .ok (.bipush 9, 2) := by decide +kernel
theorem dX5_readSight_62 : decode cX5_readSight 62 = .ok (.if_icmp .le 10, 3) := by decide +kernel
theorem dX5_readSight_65 : decode cX5_readSight 65 = .ok (.aload_n 0, 1) := by decide +kernel
theorem dX5_readSight_66 : decode cX5_readSight 66 = .ok (.iconst 4, 1) := by decide +kernel
theorem dX5_readSight_67 : decode cX5_readSight 67 = .ok (.iload_n 1, 1) := by decide +kernel
theorem dX5_readSight_68 : decode cX5_readSight 68 = .ok (.invokevirtual 144, 3) := by decide +kernel
theorem dX5_readSight_71 : decode cX5_readSight 71 = .ok (.ireturn, 1) := by decide +kernel
theorem dX5_readSight_72 : decode cX5_readSight 72 = .ok (.aload_n 0, 1) := by decide +kernel
theorem dX5_readSight_73 : decode cX5_readSight 73 = .ok (.iload_n 2, 1) := by decide +kernel
theorem dX5_readSight_74 : decode cX5_readSight 74 = .ok (.ifCond .eq 14, 3) := by decide +kernel
theorem dX5_readSight_77 : decode cX5_readSight 77 = .ok (.aload_n 0, 1) := by decide +kernel
theorem dX5_readSight_78 : decode cX5_readSight 78 = .ok (.getfield 9, 3) := by decide +kernel
theorem dX5_readSight_81 : decode cX5_readSight 81 = .ok (.getfield 141, 3) := by decide +kernel
theorem dX5_readSight_84 : decode cX5_readSight 84 = .ok (.ineg, 1) := by decide +kernel
theorem dX5_readSight_85 : decode cX5_readSight 85 = .ok (.goto 10, 3) := by decide +kernel
theorem dX5_readSight_88 : decode cX5_readSight 88 = .ok (.aload_n 0, 1) := by decide +kernel
theorem dX5_readSight_89 : decode cX5_readSight 89 = .ok (.getfield 9, 3) := by decide +kernel
theorem dX5_readSight_92 : decode cX5_readSight 92 = .ok (.getfield 141, 3) := by decide +kernel
theorem dX5_readSight_95 : decode cX5_readSight 95 = .ok (.putfield 109, 3) := by decide +kernel
theorem dX5_readSight_98 : decode cX5_readSight 98 = .ok (.aload_n 0, 1) := by decide +kernel
theorem dX5_readSight_99 : decode cX5_readSight 99 = .ok (.getfield 9, 3) := by decide +kernel
theorem dX5_readSight_102 : decode cX5_readSight 102 = .ok (.invokevirtual 87, 3) := by decide +kernel
theorem dX5_readSight_105 : decode cX5_readSight 105 = .ok (.iconst 1, 1) := by decide +kernel
theorem dX5_readSight_106 : decode cX5_readSight 106 = .ok (.ireturn, 1) := by decide +kernel
theorem dX5_readSoul_0 : decode cX5_readSoul 0 = .ok (.aload_n 1, 1) := by decide +kernel
theorem dX5_readSoul_1 : decode cX5_readSoul 1 = .ok (.getfield 147, 3) := by decide +kernel
theorem dX5_readSoul_4 : decode cX5_readSoul 4 = .ok (.istore_n 2, 1) := by decide +kernel
theorem dX5_readSoul_5 : decode cX5_readSoul 5 = .ok (.iload_n 2, 1) := by decide +kernel
theorem dX5_readSoul_6 : decode cX5_readSoul 6 = .ok (.ifCond .lt 9, 3) := by decide +kernel
theorem dX5_readSoul_9 : decode cX5_readSoul 9 = .ok (.iload_n 2, 1) := by decide +kernel
theorem dX5_readSoul_10 : decode cX5_readSoul 10 = .ok (.bipush 6, 2) := by decide +kernel
theorem dX5_readSoul_12 : decode cX5_readSoul 12 = .ok (.if_icmp .lt 8, 3) := by decide +kernel
theorem dX5_readSoul_15 : decode cX5_readSoul 15 = .ok (.aload_n 0, 1) := by decide +kernel
theorem dX5_readSoul_16 : decode cX5_readSoul 16 = .ok (.invokevirtual 76, 3) := by decide +kernel
theorem dX5_readSoul_19 : decode cX5_readSoul 19 = .ok (.ireturn, 1) := by decide +kernel
theorem dX5_readSoul_20 : decode cX5_readSoul 20 = .ok (.aload_n 0, 1) := by decide +kernel
theorem dX5_readSoul_21 : decode cX5_readSoul 21 = .ok (.getfield 9, 3) := by decide +kernel
theorem dX5_readSoul_24 : decode cX5_readSoul 24 = .ok (.invokevirtual 87, 3) := by decide +kernel
theorem dX5_readSoul_27 : decode cX5_readSoul 27 = .ok (.aload_n 0, 1) := by decide +kernel
theorem dX5_readSoul_28 : decode cX5_readSoul 28 = .ok (.aload_n 1, 1) := by decide +kernel
theorem dX5_readSoul_29 : decode cX5_readSoul 29 = .ok (.getfield 150, 3) := by decide +kernel
theorem dX5_readSoul_32 : decode cX5_readSoul 32 = .ok (.iload_n 2, 1) := by decide +kernel
theorem dX5_readSoul_33 : decode cX5_readSoul 33 = .ok (.invokevirtual 94, 3) := by decide +kernel
theorem dX5_readSoul_36 : decode cX5_readSoul 36 = .ok (.ifCond .eq 16, 3) := by decide +kernel
theorem dX5_readSoul_39 : decode cX5_readSoul 39 = .ok (.aload_n 0, 1) := by decide +kernel
theorem dX5_readSoul_40 : decode cX5_readSoul 40 = .ok (.sipush 263, 3) := by decide +kernel
theorem dX5_readSoul_43 : decode cX5_readSoul 43 = .ok (.iconst 0, 1) := by decide +kernel
theorem dX5_readSoul_44 : decode cX5_readSoul 44 = .ok (.bipush 9, 2) := by decide +kernel
theorem dX5_readSoul_46 : decode cX5_readSoul 46 = .ok (.invokevirtual 105, 3) := by decide +kernel
theorem dX5_readSoul_49 : decode cX5_readSoul 49 = .ok (.ifCond .ne 5, 3) := by decide +kernel
theorem dX5_readSoul_52 : decode cX5_readSoul 52 = .ok (.iconst 0, 1) := by decide +kernel
theorem dX5_readSoul_53 : decode cX5_readSoul 53 = .ok (.ireturn, 1) := by decide +kernel
theorem dX5_readSoul_54 : decode cX5_readSoul 54 = .ok (.aload_n 1, 1) := by decide +kernel
theorem dX5_readSoul_55 : decode cX5_readSoul 55 = .ok (.getfield 153, 3) := by decide +kernel
theorem dX5_readSoul_58 : decode cX5_readSoul 58 = .ok (.iconst 2, 1) := by decide +kernel
theorem dX5_readSoul_59 : decode cX5_readSoul 59 = .ok (.iload_n 2, 1) := by decide +kernel
theorem dX5_readSoul_60 : decode cX5_readSoul 60 = .ok (.imul, 1) := by decide +kernel
theorem dX5_readSoul_61 : decode cX5_readSoul 61 = .ok (.aload_n 0, 1) := by decide +kernel
theorem dX5_readSoul_62 : decode cX5_readSoul 62 = .ok (.getfield 109, 3) := by decide +kernel
theorem dX5_readSoul_65 : decode cX5_readSoul 65 = .ok (.iastore, 1) := by decide +kernel
theorem dX5_readSoul_66 : decode cX5_readSoul 66 = .ok (.aload_n 0, 1) := by decide +kernel
theorem dX5_readSoul_67 : decode cX5_readSoul 67 = .ok (.sipush 264, 3) := by decide +kernel
theorem dX5_readSoul_70 : decode cX5_readSoul 70 = .ok (.iconst 0, 1) := by decide +kernel
theorem dX5_readSoul_71 : decode cX5_readSoul 71 = .ok (.bipush 9, 2) := by decide +kernel
theorem dX5_readSoul_73 : decode cX5_readSoul 73 = .ok (.invokevirtual 105, 3) := by decide +kernel
theorem dX5_readSoul_76 : decode cX5_readSoul 76 = .ok (.ifCond .ne 5, 3) := by decide +kernel
theorem dX5_readSoul_79 : decode cX5_readSoul 79 = .ok (.iconst 0, 1) := by decide +kernel
theorem dX5_readSoul_80 : decode cX5_readSoul 80 = .ok (.ireturn, 1) := by decide +kernel
theorem dX5_readSoul_81 : decode cX5_readSoul 81 = .ok (.aload_n 1, 1) := by decide +kernel
theorem dX5_readSoul_82 : decode cX5_readSoul 82 = .ok (.getfield 153, 3) := by decide +kernel
theorem dX5_readSoul_85 : decode cX5_readSoul 85 = .ok (.iconst 2, 1) := by decide +kernel
theorem dX5_readSoul_86 : decode cX5_readSoul 86 = .ok (.iload_n 2, 1) := by decide +kernel
theorem dX5_readSoul_87 : decode cX5_readSoul 87 = .ok (.imul, 1) := by decide +kernel
theorem dX5_readSoul_88 : decode cX5_readSoul 88 = .ok (.iconst 1, 1) := by decide +kernel
theorem dX5_readSoul_89 : decode cX5_readSoul 89 = .ok (.iadd, 1) := by decide +kernel
theorem dX5_readSoul_90 : decode cX5_readSoul 90 = .ok (.aload_n 0, 1) := by decide +kernel
theorem dX5_readSoul_91 : decode cX5_readSoul 91 = .ok (.getfield 109, 3) := by decide +kernel
theorem dX5_readSoul_94 : decode cX5_readSoul 94 = .ok (.iastore, 1) := by decide +kernel
theorem dX5_readSoul_95 : decode cX5_readSoul 95 = .ok (.aload_n 1, 1) := by decide +kernel
theorem dX5_readSoul_96 : decode cX5_readSoul 96 = .ok (.dup, 1) := by decide +kernel
theorem dX5_readSoul_97 : decode cX5_readSoul 97 = .ok (.getfield 147, 3) := by decide +kernel
theorem dX5_readSoul_100 : decode cX5_readSoul 100 = .ok (.iconst 1, 1) := by decide +kernel
theorem dX5_readSoul_101 : decode cX5_readSoul 101 = .ok (.iadd, 1) := by decide +kernel
theorem dX5_readSoul_102 : decode cX5_readSoul 102 = .ok (.putfield 147, 3) := by decide +kernel
theorem dX5_readSoul_105 : decode cX5_readSoul 105 = .ok (.iconst 1, 1) := by decide +kernel
theorem dX5_readSoul_106 : decode cX5_readSoul 106 = .ok (.ireturn, 1) := by decide +kernel
theorem dX5_readMatter_0 : decode cX5_readMatter 0 = .ok (.aload_n 1, 1) := by decide +kernel
theorem dX5_readMatter_1 : decode cX5_readMatter 1 = .ok (.getfield 156, 3) := by decide +kernel
theorem dX5_readMatter_4 : decode cX5_readMatter 4 = .ok (.istore_n 2, 1) := by decide +kernel
theorem dX5_readMatter_5 : decode cX5_readMatter 5 = .ok (.iload_n 2, 1) := by decide +kernel
theorem dX5_readMatter_6 : decode cX5_readMatter 6 = .ok (.ifCond .lt 9, 3) := by decide +kernel
theorem dX5_readMatter_9 : decode cX5_readMatter 9 = .ok (.iload_n 2, 1) := by decide +kernel
theorem dX5_readMatter_10 : decode cX5_readMatter 10 = .ok (.bipush 6, 2) := by decide +kernel
theorem dX5_readMatter_12 : decode cX5_readMatter 12 = .ok (.if_icmp .lt 8, 3) := by decide +kernel
theorem dX5_readMatter_15 : decode cX5_readMatter 15 = .ok (.aload_n 0, 1) := by decide +kernel
theorem dX5_readMatter_16 : decode cX5_readMatter 16 = .ok (.invokevirtual 76, 3) := by decide +kernel
theorem dX5_readMatter_19 : decode cX5_readMatter 19 = .ok (.ireturn, 1) := by decide +kernel
theorem dX5_readMatter_20 : decode cX5_readMatter 20 = .ok (.aload_n 0, 1) := by decide +kernel
theorem dX5_readMatter_21 : decode cX5_readMatter 21 = .ok (.getfield 9, 3) := by decide +kernel
theorem dX5_readMatter_24 : decode cX5_readMatter 24 = .ok (.invokevirtual 87, 3) := by decide +kernel
theorem dX5_readMatter_27 : decode cX5_readMatter 27 = .ok (.aload_n 0, 1) := by decide +kernel
theorem dX5_readMatter_28 : decode cX5_readMatter 28 = .ok (.aload_n 1, 1) := by decide +kernel
theorem dX5_readMatter_29 : decode cX5_readMatter 29 = .ok (.getfield 159, 3) := by decide +kernel
theorem dX5_readMatter_32 : decode cX5_readMatter 32 = .ok (.iload_n 2, 1) := by decide +kernel
theorem dX5_readMatter_33 : decode cX5_readMatter 33 = .ok (.invokevirtual 94, 3) := by decide +kernel
theorem dX5_readMatter_36 : decode cX5_readMatter 36 = .ok (.ifCond .eq 16, 3) := by decide +kernel
theorem dX5_readMatter_39 : decode cX5_readMatter 39 = .ok (.aload_n 0, 1) := by decide +kernel
theorem dX5_readMatter_40 : decode cX5_readMatter 40 = .ok (.sipush 266, 3) := by decide +kernel
theorem dX5_readMatter_43 : decode cX5_readMatter 43 = .ok (.iconst 1, 1) := by decide +kernel
theorem dX5_readMatter_44 : decode cX5_readMatter 44 = .ok (.bipush 99, 2) := by decide +kernel
theorem dX5_readMatter_46 : decode cX5_readMatter 46 = .ok (.invokevirtual 105, 3) := by decide +kernel
theorem dX5_readMatter_49 : decode cX5_readMatter 49 = .ok (.ifCond .ne 5, 3) := by decide +kernel
theorem dX5_readMatter_52 : decode cX5_readMatter 52 = .ok (.iconst 0, 1) := by decide +kernel
theorem dX5_readMatter_53 : decode cX5_readMatter 53 = .ok (.ireturn, 1) := by decide +kernel
theorem dX5_readMatter_54 : decode cX5_readMatter 54 = .ok (.aload_n 1, 1) := by decide +kernel
theorem dX5_readMatter_55 : decode cX5_readMatter 55 = .ok (.getfield 162, 3) := by decide +kernel
theorem dX5_readMatter_58 : decode cX5_readMatter 58 = .ok (.iload_n 2, 1) := by decide +kernel
theorem dX5_readMatter_59 : decode cX5_readMatter 59 = .ok (.aload_n 0, 1) := by decide +kernel
theorem dX5_readMatter_60 : decode cX5_readMatter 60 = .ok (.getfield 109, 3) := by decide +kernel
theorem dX5_readMatter_63 : decode cX5_readMatter 63 = .ok (.iastore, 1) := by decide +kernel
theorem dX5_readMatter_64 : decode cX5_readMatter 64 = .ok (.aload_n 0, 1) := by decide +kernel
theorem dX5_readMatter_65 : decode cX5_readMatter 65 = .ok (.sipush 267, 3) := by decide +kernel
theorem dX5_readMatter_68 : decode cX5_readMatter 68 = .ok (.iconst 1, 1) := by decide +kernel
theorem dX5_readMatter_69 : decode cX5_readMatter 69 = .ok (.bipush 9, 2) := by decide +kernel
theorem dX5_readMatter_71 : decode cX5_readMatter 71 = .ok (.invokevirtual 105, 3) := by decide +kernel
theorem dX5_readMatter_74 : decode cX5_readMatter 74 = .ok (.ifCond .ne 5, 3) := by decide +kernel
theorem dX5_readMatter_77 : decode cX5_readMatter 77 = .ok (.iconst 0, 1) := by decide +kernel
theorem dX5_readMatter_78 : decode cX5_readMatter 78 = .ok (.ireturn, 1) := by decide +kernel
theorem dX5_readMatter_79 : decode cX5_readMatter 79 = .ok (.aload_n 1, 1) := by decide +kernel
theorem dX5_readMatter_80 : decode cX5_readMatter 80 = .ok (.getfield 165, 3) := by decide +kernel
theorem dX5_readMatter_83 : decode cX5_readMatter 83 = .ok (.iload_n 2, 1) := by decide +kernel
theorem dX5_readMatter_84 : decode cX5_readMatter 84 = .ok (.bipush 8, 2) := by decide +kernel
theorem dX5_readMatter_86 : decode cX5_readMatter 86 = .ok (.imul, 1) := by decide +kernel
theorem dX5_readMatter_87 : decode cX5_readMatter 87 = .ok (.aload_n 0, 1) := by decide +kernel
theorem dX5_readMatter_88 : decode cX5_readMatter 88 = .ok (.getfield 109, 3) := by decide +kernel
theorem dX5_readMatter_91 : decode cX5_readMatter 91 = .ok (.iastore, 1) := by decide +kernel
theorem dX5_readMatter_92 : decode cX5_readMatter 92 = .ok (.iconst 1, 1) := by decide +kernel
theorem dX5_readMatter_93 : decode cX5_readMatter 93 = .ok (.istore_n 3, 1) := by decide +kernel
theorem dX5_readMatter_94 : decode cX5_readMatter 94 = .ok (.iload_n 3, 1) := by decide +kernel
theorem dX5_readMatter_95 : decode cX5_readMatter 95 = .ok (.bipush 8, 2) := by decide +kernel
theorem dX5_readMatter_97 : decode cX5_readMatter 97 = .ok (.if_icmp .ge 47, 3) := by decide +kernel
theorem dX5_readMatter_100 : decode cX5_readMatter 100 = .ok (.aload_n 0, 1) := by decide +kernel
theorem dX5_readMatter_101 : decode cX5_readMatter 101 = .ok (.getfield 9, 3) := by decide +kernel
theorem dX5_readMatter_104 : decode cX5_readMatter 104 = .ok (.getfield 46, 3) := by decide +kernel
theorem dX5_readMatter_107 : decode cX5_readMatter 107 = .ok (.iconst 2, 1) := by decide +kernel
theorem dX5_readMatter_108 : decode cX5_readMatter 108 = .ok (.if_icmp .ne 36, 3) := by decide +kernel
theorem dX5_readMatter_111 : decode cX5_readMatter 111 = .ok (.aload_n 0, 1) := by decide +kernel
theorem dX5_readMatter_112 : decode cX5_readMatter 112 = .ok (.iconst 1, 1) := by decide +kernel
theorem dX5_readMatter_113 : decode cX5_readMatter 113 = .ok (.bipush 9, 2) := by decide +kernel
theorem dX5_readMatter_115 : decode cX5_readMatter 115 = .ok (.invokevirtual 125, 3) := by decide +kernel
theorem dX5_readMatter_118 : decode cX5_readMatter 118 = .ok (.ifCond .ne 5, 3) := by decide +kernel
theorem dX5_readMatter_121 : decode cX5_readMatter 121 = .ok (.iconst 0, 1) := by decide +kernel
theorem dX5_readMatter_122 : decode cX5_readMatter 122 = .ok (.ireturn, 1) := by decide +kernel
theorem dX5_readMatter_123 : decode cX5_readMatter 123 = .ok (.aload_n 1, 1) := by decide +kernel
theorem dX5_readMatter_124 : decode cX5_readMatter 124 = .ok (.getfield 165, 3) := by decide +kernel
theorem dX5_readMatter_127 : decode cX5_readMatter 127 = .ok (.iload_n 2, 1) := by decide +kernel
theorem dX5_readMatter_128 : decode cX5_readMatter 128 = .ok (.bipush 8, 2) := by decide +kernel
theorem dX5_readMatter_130 : decode cX5_readMatter 130 = .ok (.imul, 1) := by decide +kernel
theorem dX5_readMatter_131 : decode cX5_readMatter 131 = .ok (.iload_n 3, 1) := by decide +kernel
theorem dX5_readMatter_132 : decode cX5_readMatter 132 = .ok (.iadd, 1) := by decide +kernel
theorem dX5_readMatter_133 : decode cX5_readMatter 133 = .ok (.aload_n 0, 1) := by decide +kernel
theorem dX5_readMatter_134 : decode cX5_readMatter 134 = .ok (.getfield 109, 3) := by decide +kernel
theorem dX5_readMatter_137 : decode cX5_readMatter 137 = .ok (.iastore, 1) := by decide +kernel
theorem dX5_readMatter_138 : decode cX5_readMatter 138 = .ok (.iinc 3 1, 3) := by decide +kernel
theorem dX5_readMatter_141 : decode cX5_readMatter 141 = .ok (.goto (-47), 3) := by decide +kernel
theorem dX5_readMatter_144 : decode cX5_readMatter 144 = .ok (.aload_n 1, 1) := by decide +kernel
theorem dX5_readMatter_145 : decode cX5_readMatter 145 = .ok (.getfield 168, 3) := by decide +kernel
theorem dX5_readMatter_148 : decode cX5_readMatter 148 = .ok (.iload_n 2, 1) := by decide +kernel
theorem dX5_readMatter_149 : decode cX5_readMatter 149 = .ok (.iload_n 3, 1) := by decide +kernel
theorem dX5_readMatter_150 : decode cX5_readMatter 150 = .ok (.iastore, 1) := by decide +kernel
theorem dX5_readMatter_151 : decode cX5_readMatter 151 = .ok (.aload_n 1, 1) := by decide +kernel
theorem dX5_readMatter_152 : decode cX5_readMatter 152 = .ok (.dup, 1) := by decide +kernel
theorem dX5_readMatter_153 : decode cX5_readMatter 153 = .ok (.getfield 156, 3) := by decide +kernel
theorem dX5_readMatter_156 : decode cX5_readMatter 156 = .ok (.iconst 1, 1) := by decide +kernel
theorem dX5_readMatter_157 : decode cX5_readMatter 157 = .ok (.iadd, 1) := by decide +kernel
theorem dX5_readMatter_158 : decode cX5_readMatter 158 = .ok (.putfield 156, 3) := by decide +kernel
theorem dX5_readMatter_161 : decode cX5_readMatter 161 = .ok (.iconst 1, 1) := by decide +kernel
theorem dX5_readMatter_162 : decode cX5_readMatter 162 = .ok (.ireturn, 1) := by decide +kernel
theorem dX5_readRule_0 : decode cX5_readRule 0 = .ok (.aload_n 1, 1) := by decide +kernel
theorem dX5_readRule_1 : decode cX5_readRule 1 = .ok (.invokevirtual 171, 3) := by decide +kernel
theorem dX5_readRule_4 : decode cX5_readRule 4 = .ok (.ifCond .eq 8, 3) := by decide +kernel
theorem dX5_readRule_7 : decode cX5_readRule 7 = .ok (.aload_n 0, 1) := by decide +kernel
theorem dX5_readRule_8 : decode cX5_readRule 8 = .ok (.invokevirtual 76, 3) := by decide +kernel
theorem dX5_readRule_11 : decode cX5_readRule 11 = .ok (.ireturn, 1) := by decide +kernel
theorem dX5_readRule_12 : decode cX5_readRule 12 = .ok (.aload_n 0, 1) := by decide +kernel
theorem dX5_readRule_13 : decode cX5_readRule 13 = .ok (.getfield 9, 3) := by decide +kernel
theorem dX5_readRule_16 : decode cX5_readRule 16 = .ok (.invokevirtual 87, 3) := by decide +kernel
theorem dX5_readRule_19 : decode cX5_readRule 19 = .ok (.aload_n 0, 1) := by decide +kernel
theorem dX5_readRule_20 : decode cX5_readRule 20 = .ok (.getfield 20, 3) := by decide +kernel
theorem dX5_readRule_23 : decode cX5_readRule 23 = .ok (.aload_n 1, 1) := by decide +kernel
theorem dX5_readRule_24 : decode cX5_readRule 24 = .ok (.invokevirtual 176, 3) := by decide +kernel
theorem dX5_readRule_27 : decode cX5_readRule 27 = .ok (.ifCond .ne 10, 3) := by decide +kernel
theorem dX5_readRule_30 : decode cX5_readRule 30 = .ok (.aload_n 0, 1) := by decide +kernel
theorem dX5_readRule_31 : decode cX5_readRule 31 = .ok (.invokevirtual 76, 3) := by decide +kernel
theorem dX5_readRule_34 : decode cX5_readRule 34 = .ok (.ifCond .eq 7, 3) := by decide +kernel
theorem dX5_readRule_37 : decode cX5_readRule 37 = .ok (.iconst 1, 1) := by decide +kernel
theorem dX5_readRule_38 : decode cX5_readRule 38 = .ok (.goto 4, 3) := by decide +kernel
theorem dX5_readRule_41 : decode cX5_readRule 41 = .ok (.iconst 0, 1) := by decide +kernel
theorem dX5_readRule_42 : decode cX5_readRule 42 = .ok (.ireturn, 1) := by decide +kernel
theorem dX5_readDraw_0 : decode cX5_readDraw 0 = .ok (.aload_n 0, 1) := by decide +kernel
theorem dX5_readDraw_1 : decode cX5_readDraw 1 = .ok (.getfield 36, 3) := by decide +kernel
theorem dX5_readDraw_4 : decode cX5_readDraw 4 = .ok (.ifCond .eq 8, 3) := by decide +kernel
theorem dX5_readDraw_7 : decode cX5_readDraw 7 = .ok (.aload_n 0, 1) := by decide +kernel
theorem dX5_readDraw_8 : decode cX5_readDraw 8 = .ok (.invokevirtual 76, 3) := by decide +kernel
theorem dX5_readDraw_11 : decode cX5_readDraw 11 = .ok (.ireturn, 1) := by decide +kernel
theorem dX5_readDraw_12 : decode cX5_readDraw 12 = .ok (.aload_n 0, 1) := by decide +kernel
theorem dX5_readDraw_13 : decode cX5_readDraw 13 = .ok (.iconst 1, 1) := by decide +kernel
theorem dX5_readDraw_14 : decode cX5_readDraw 14 = .ok (.putfield 36, 3) := by decide +kernel
theorem dX5_readDraw_17 : decode cX5_readDraw 17 = .ok (.aload_n 0, 1) := by decide +kernel
theorem dX5_readDraw_18 : decode cX5_readDraw 18 = .ok (.sipush 270, 3) := by decide +kernel
theorem dX5_readDraw_21 : decode cX5_readDraw 21 = .ok (.iconst 0, 1) := by decide +kernel
theorem dX5_readDraw_22 : decode cX5_readDraw 22 = .ok (.sipush 999, 3) := by decide +kernel
theorem dX5_readDraw_25 : decode cX5_readDraw 25 = .ok (.invokevirtual 105, 3) := by decide +kernel
theorem dX5_readDraw_28 : decode cX5_readDraw 28 = .ok (.ifCond .ne 5, 3) := by decide +kernel
theorem dX5_readDraw_31 : decode cX5_readDraw 31 = .ok (.iconst 0, 1) := by decide +kernel
theorem dX5_readDraw_32 : decode cX5_readDraw 32 = .ok (.ireturn, 1) := by decide +kernel
theorem dX5_readDraw_33 : decode cX5_readDraw 33 = .ok (.aload_n 1, 1) := by decide +kernel
theorem dX5_readDraw_34 : decode cX5_readDraw 34 = .ok (.aload_n 0, 1) := by decide +kernel
theorem dX5_readDraw_35 : decode cX5_readDraw 35 = .ok (.getfield 109, 3) := by decide +kernel
theorem dX5_readDraw_38 : decode cX5_readDraw 38 = .ok (.putfield 179, 3) := by decide +kernel
theorem dX5_readDraw_41 : decode cX5_readDraw 41 = .ok (.iconst 1, 1) := by decide +kernel
theorem dX5_readDraw_42 : decode cX5_readDraw 42 = .ok (.ireturn, 1) := by decide +kernel
theorem dX5_readNewName_0 : decode cX5_readNewName 0 = .ok (.aload_n 0, 1) := by decide +kernel
theorem dX5_readNewName_1 : decode cX5_readNewName 1 = .ok (.getfield 9, 3) := by decide +kernel
theorem dX5_readNewName_4 : decode cX5_readNewName 4 = .ok (.getfield 46, 3) := by decide +kernel
theorem dX5_readNewName_7 : decode cX5_readNewName 7 = .ok (.iconst 3, 1) := by decide +kernel
theorem dX5_readNewName_8 : decode cX5_readNewName 8 = .ok (.if_icmp .eq 8, 3) := by decide +kernel
theorem dX5_readNewName_11 : decode cX5_readNewName 11 = .ok (.aload_n 0, 1) := by decide +kernel
theorem dX5_readNewName_12 : decode cX5_readNewName 12 = .ok (.invokevirtual 76, 3) := by decide +kernel
theorem dX5_readNewName_15 : decode cX5_readNewName 15 = .ok (.ireturn, 1) := by decide +kernel
theorem dX5_readNewName_16 : decode cX5_readNewName 16 = .ok (.aload_n 1, 1) := by decide +kernel
theorem dX5_readNewName_17 : decode cX5_readNewName 17 = .ok (.iload_n 2, 1) := by decide +kernel
theorem dX5_readNewName_18 : decode cX5_readNewName 18 = .ok (.aload_n 0, 1) := by decide +kernel
theorem dX5_readNewName_19 : decode cX5_readNewName 19 = .ok (.getfield 9, 3) := by decide +kernel
theorem dX5_readNewName_22 : decode cX5_readNewName 22 = .ok (.getfield 182, 3) := by decide +kernel
theorem dX5_readNewName_25 : decode cX5_readNewName 25 = .ok (.invokestatic 186, 3) := by decide +kernel
theorem dX5_readNewName_28 : decode cX5_readNewName 28 = .ok (.iconst (-1), 1) := by decide +kernel
theorem dX5_readNewName_29 : decode cX5_readNewName 29 = .ok (.if_icmp .eq 16, 3) := by decide +kernel
theorem dX5_readNewName_32 : decode cX5_readNewName 32 = .ok (.aload_n 0, 1) := by decide +kernel
theorem dX5_readNewName_33 : decode cX5_readNewName 33 = .ok (.iconst 3, 1) := by decide +kernel
theorem dX5_readNewName_34 : decode cX5_readNewName 34 = .ok (.aload_n 0, 1) := by decide +kernel
theorem dX5_readNewName_35 : decode cX5_readNewName 35 = .ok (.getfield 9, 3) := by decide +kernel
theorem dX5_readNewName_38 : decode cX5_readNewName 38 = .ok (.getfield 138, 3) := by decide +kernel
theorem dX5_readNewName_41 : decode cX5_readNewName 41 = .ok (.invokevirtual 144, 3) := by decide +kernel
theorem dX5_readNewName_44 : decode cX5_readNewName 44 = .ok (.ireturn, 1) := by decide +kernel
theorem dX5_readNewName_45 : decode cX5_readNewName 45 = .ok (.iload_n 2, 1) := by decide +kernel
theorem dX5_readNewName_46 : decode cX5_readNewName 46 = .ok (.ifCond .lt 19, 3) := by decide +kernel
theorem dX5_readNewName_49 : decode cX5_readNewName 49 = .ok (.iload_n 2, 1) := by decide +kernel
theorem dX5_readNewName_50 : decode cX5_readNewName 50 = .ok (.aload_n 1, 1) := by decide +kernel
theorem dX5_readNewName_51 : decode cX5_readNewName 51 = .ok (.arraylength, 1) := by decide +kernel
theorem dX5_readNewName_52 : decode cX5_readNewName 52 = .ok (.if_icmp .ge 13, 3) := by decide +kernel
theorem dX5_readNewName_55 : decode cX5_readNewName 55 = .ok (.aload_n 1, 1) := by decide +kernel
theorem dX5_readNewName_56 : decode cX5_readNewName 56 = .ok (.iload_n 2, 1) := by decide +kernel
theorem dX5_readNewName_57 : decode cX5_readNewName 57 = .ok (.aload_n 0, 1) := by decide +kernel
theorem dX5_readNewName_58 : decode cX5_readNewName 58 = .ok (.getfield 9, 3) := by decide +kernel
theorem dX5_readNewName_61 : decode cX5_readNewName 61 = .ok (.getfield 182, 3) := by decide +kernel
theorem dX5_readNewName_64 : decode cX5_readNewName 64 = .ok (.lastore, 1) := by decide +kernel
theorem dX5_readNewName_65 : decode cX5_readNewName 65 = .ok (.aload_n 0, 1) := by decide +kernel
theorem dX5_readNewName_66 : decode cX5_readNewName 66 = .ok (.getfield 9, 3) := by decide +kernel
theorem dX5_readNewName_69 : decode cX5_readNewName 69 = .ok (.invokevirtual 87, 3) := by decide +kernel
theorem dX5_readNewName_72 : decode cX5_readNewName 72 = .ok (.iconst 1, 1) := by decide +kernel
theorem dX5_readNewName_73 : decode cX5_readNewName 73 = .ok (.ireturn, 1) := by decide +kernel
theorem dX5_readPlaceName_0 : decode cX5_readPlaceName 0 = .ok (.aload_n 0, 1) := by decide +kernel
theorem dX5_readPlaceName_1 : decode cX5_readPlaceName 1 = .ok (.getfield 9, 3) := by decide +kernel
theorem dX5_readPlaceName_4 : decode cX5_readPlaceName 4 = .ok (.getfield 46, 3) := by decide +kernel
theorem dX5_readPlaceName_7 : decode cX5_readPlaceName 7 = .ok (.iconst 3, 1) := by decide +kernel
theorem dX5_readPlaceName_8 : decode cX5_readPlaceName 8 = .ok (.if_icmp .eq 8, 3) := by decide +kernel
theorem dX5_readPlaceName_11 : decode cX5_readPlaceName 11 = .ok (.aload_n 0, 1) := by decide +kernel
theorem dX5_readPlaceName_12 : decode cX5_readPlaceName 12 = .ok (.invokevirtual 76, 3) := by decide +kernel
theorem dX5_readPlaceName_15 : decode cX5_readPlaceName 15 = .ok (.ireturn, 1) := by decide +kernel
theorem dX5_readPlaceName_16 : decode cX5_readPlaceName 16 = .ok (.aload_n 1, 1) := by decide +kernel
theorem dX5_readPlaceName_17 : decode cX5_readPlaceName 17 = .ok (.getfield 90, 3) := by decide +kernel
theorem dX5_readPlaceName_20 : decode cX5_readPlaceName 20 = .ok (.aload_n 1, 1) := by decide +kernel
theorem dX5_readPlaceName_21 : decode cX5_readPlaceName 21 = .ok (.getfield 84, 3) := by decide +kernel
theorem dX5_readPlaceName_24 : decode cX5_readPlaceName 24 = .ok (.aload_n 0, 1) := by decide +kernel
theorem dX5_readPlaceName_25 : decode cX5_readPlaceName 25 = .ok (.getfield 9, 3) := by decide +kernel
theorem dX5_readPlaceName_28 : decode cX5_readPlaceName 28 = .ok (.getfield 182, 3) := by decide +kernel
theorem dX5_readPlaceName_31 : decode cX5_readPlaceName 31 = .ok (.invokestatic 186, 3) := by decide +kernel
theorem dX5_readPlaceName_34 : decode cX5_readPlaceName 34 = .ok (.istore_n 3, 1) := by decide +kernel
theorem dX5_readPlaceName_35 : decode cX5_readPlaceName 35 = .ok (.iload_n 3, 1) := by decide +kernel
theorem dX5_readPlaceName_36 : decode cX5_readPlaceName 36 = .ok (.iconst (-1), 1) := by decide +kernel
theorem dX5_readPlaceName_37 : decode cX5_readPlaceName 37 = .ok (.if_icmp .ne 16, 3) := by decide +kernel
theorem dX5_readPlaceName_40 : decode cX5_readPlaceName 40 = .ok (.aload_n 0, 1) := by decide +kernel
theorem dX5_readPlaceName_41 : decode cX5_readPlaceName 41 = .ok (.iconst 5, 1) := by decide +kernel
theorem dX5_readPlaceName_42 : decode cX5_readPlaceName 42 = .ok (.aload_n 0, 1) := by decide +kernel
theorem dX5_readPlaceName_43 : decode cX5_readPlaceName 43 = .ok (.getfield 9, 3) := by decide +kernel
theorem dX5_readPlaceName_46 : decode cX5_readPlaceName 46 = .ok (.getfield 138, 3) := by decide +kernel
theorem dX5_readPlaceName_49 : decode cX5_readPlaceName 49 = .ok (.invokevirtual 144, 3) := by decide +kernel
theorem dX5_readPlaceName_52 : decode cX5_readPlaceName 52 = .ok (.ireturn, 1) := by decide +kernel
theorem dX5_readPlaceName_53 : decode cX5_readPlaceName 53 = .ok (.iload_n 3, 1) := by decide +kernel
theorem dX5_readPlaceName_54 : decode cX5_readPlaceName 54 = .ok (.iload_n 2, 1) := by decide +kernel
theorem dX5_readPlaceName_55 : decode cX5_readPlaceName 55 = .ok (.if_icmp .ne 16, 3) := by decide +kernel
theorem dX5_readPlaceName_58 : decode cX5_readPlaceName 58 = .ok (.aload_n 0, 1) := by decide +kernel
theorem dX5_readPlaceName_59 : decode cX5_readPlaceName 59 = .ok (.iconst 3, 1) := by decide +kernel
theorem dX5_readPlaceName_60 : decode cX5_readPlaceName 60 = .ok (.aload_n 0, 1) := by decide +kernel
theorem dX5_readPlaceName_61 : decode cX5_readPlaceName 61 = .ok (.getfield 9, 3) := by decide +kernel
theorem dX5_readPlaceName_64 : decode cX5_readPlaceName 64 = .ok (.getfield 138, 3) := by decide +kernel
theorem dX5_readPlaceName_67 : decode cX5_readPlaceName 67 = .ok (.invokevirtual 144, 3) := by decide +kernel
theorem dX5_readPlaceName_70 : decode cX5_readPlaceName 70 = .ok (.ireturn, 1) := by decide +kernel
theorem dX5_readPlaceName_71 : decode cX5_readPlaceName 71 = .ok (.aload_n 0, 1) := by decide +kernel
theorem dX5_readPlaceName_72 : decode cX5_readPlaceName 72 = .ok (.iload_n 3, 1) := by decide +kernel
theorem dX5_readPlaceName_73 : decode cX5_readPlaceName 73 = .ok (.putfield 109, 3) := by decide +kernel
theorem dX5_readPlaceName_76 : decode cX5_readPlaceName 76 = .ok (.aload_n 0, 1) := by decide +kernel
theorem dX5_readPlaceName_77 : decode cX5_readPlaceName 77 = .ok (.getfield 9, 3) := by decide +kernel
theorem dX5_readPlaceName_80 : decode cX5_readPlaceName 80 = .ok (.invokevirtual 87, 3) := by decide +kernel
theorem dX5_readPlaceName_83 : decode cX5_readPlaceName 83 = .ok (.iconst 1, 1) := by decide +kernel
theorem dX5_readPlaceName_84 : decode cX5_readPlaceName 84 = .ok (.ireturn, 1) := by decide +kernel
theorem dX5_indexOf_0 : decode cX5_indexOf 0 = .ok (.iconst 0, 1) := by decide +kernel
theorem dX5_indexOf_1 : decode cX5_indexOf 1 = .ok (.istore 4, 2) := by decide +kernel
theorem dX5_indexOf_3 : decode cX5_indexOf 3 = .ok (.iload 4, 2) := by decide +kernel
theorem dX5_indexOf_5 : decode cX5_indexOf 5 = .ok (.iload_n 1, 1) := by decide +kernel
theorem dX5_indexOf_6 : decode cX5_indexOf 6 = .ok (.if_icmp .ge 28, 3) := by decide +kernel
theorem dX5_indexOf_9 : decode cX5_indexOf 9 = .ok (.iload 4, 2) := by decide +kernel
theorem dX5_indexOf_11 : decode cX5_indexOf 11 = .ok (.aload_n 0, 1) := by decide +kernel
theorem dX5_indexOf_12 : decode cX5_indexOf 12 = .ok (.arraylength, 1) := by decide +kernel
theorem dX5_indexOf_13 : decode cX5_indexOf 13 = .ok (.if_icmp .ge 21, 3) := by decide +kernel
theorem dX5_indexOf_16 : decode cX5_indexOf 16 = .ok (.aload_n 0, 1) := by decide +kernel
theorem dX5_indexOf_17 : decode cX5_indexOf 17 = .ok (.iload 4, 2) := by decide +kernel
theorem dX5_indexOf_19 : decode cX5_indexOf 19 = .ok (.laload, 1) := by decide +kernel
theorem dX5_indexOf_20 : decode cX5_indexOf 20 = .ok (.lload_n 2, 1) := by decide +kernel
theorem dX5_indexOf_21 : decode cX5_indexOf 21 = .ok (.lcmp, 1) := by decide +kernel
theorem dX5_indexOf_22 : decode cX5_indexOf 22 = .ok (.ifCond .ne 6, 3) := by decide +kernel
theorem dX5_indexOf_25 : decode cX5_indexOf 25 = .ok (.iload 4, 2) := by decide +kernel
theorem dX5_indexOf_27 : decode cX5_indexOf 27 = .ok (.ireturn, 1) := by decide +kernel
theorem dX5_indexOf_28 : decode cX5_indexOf 28 = .ok (.iinc 4 1, 3) := by decide +kernel
theorem dX5_indexOf_31 : decode cX5_indexOf 31 = .ok (.goto (-28), 3) := by decide +kernel
theorem dX5_indexOf_34 : decode cX5_indexOf 34 = .ok (.iconst (-1), 1) := by decide +kernel
theorem dX5_indexOf_35 : decode cX5_indexOf 35 = .ok (.ireturn, 1) := by decide +kernel
theorem dX5_readNumberBehind_0 : decode cX5_readNumberBehind 0 = .ok (.aload_n 0, 1) := by decide +kernel
theorem dX5_readNumberBehind_1 : decode cX5_readNumberBehind 1 = .ok (.iload_n 1, 1) := by decide +kernel
theorem dX5_readNumberBehind_2 : decode cX5_readNumberBehind 2 = .ok (.invokevirtual 80, 3) := by decide +kernel
theorem dX5_readNumberBehind_5 : decode cX5_readNumberBehind 5 = .ok (.ifCond .eq 16, 3) := by decide +kernel
theorem dX5_readNumberBehind_8 : decode cX5_readNumberBehind 8 = .ok (.aload_n 0, 1) := by decide +kernel
theorem dX5_readNumberBehind_9 : decode cX5_readNumberBehind 9 = .ok (.iload_n 2, 1) := by decide +kernel
theorem dX5_readNumberBehind_10 : decode cX5_readNumberBehind 10 = .ok (.iload_n 3, 1) := by decide +kernel
theorem dX5_readNumberBehind_11 : decode cX5_readNumberBehind 11 = .ok (.invokevirtual 125, 3) := by decide +kernel
theorem dX5_readNumberBehind_14 : decode cX5_readNumberBehind 14 = .ok (.ifCond .eq 7, 3) := by decide +kernel
theorem dX5_readNumberBehind_17 : decode cX5_readNumberBehind 17 = .ok (.iconst 1, 1) := by decide +kernel
theorem dX5_readNumberBehind_18 : decode cX5_readNumberBehind 18 = .ok (.goto 4, 3) := by decide +kernel
theorem dX5_readNumberBehind_21 : decode cX5_readNumberBehind 21 = .ok (.iconst 0, 1) := by decide +kernel
theorem dX5_readNumberBehind_22 : decode cX5_readNumberBehind 22 = .ok (.ireturn, 1) := by decide +kernel
theorem dX5_readNumber_0 : decode cX5_readNumber 0 = .ok (.aload_n 0, 1) := by decide +kernel
theorem dX5_readNumber_1 : decode cX5_readNumber 1 = .ok (.getfield 9, 3) := by decide +kernel
theorem dX5_readNumber_4 : decode cX5_readNumber 4 = .ok (.getfield 46, 3) := by decide +kernel
theorem dX5_readNumber_7 : decode cX5_readNumber 7 = .ok (.iconst 2, 1) := by decide +kernel
theorem dX5_readNumber_8 : decode cX5_readNumber 8 = .ok (.if_icmp .eq 8, 3) := by decide +kernel
theorem dX5_readNumber_11 : decode cX5_readNumber 11 = .ok (.aload_n 0, 1) := by decide +kernel
theorem dX5_readNumber_12 : decode cX5_readNumber 12 = .ok (.invokevirtual 76, 3) := by decide +kernel
theorem dX5_readNumber_15 : decode cX5_readNumber 15 = .ok (.ireturn, 1) := by decide +kernel
theorem dX5_readNumber_16 : decode cX5_readNumber 16 = .ok (.aload_n 0, 1) := by decide +kernel
theorem dX5_readNumber_17 : decode cX5_readNumber 17 = .ok (.getfield 9, 3) := by decide +kernel
theorem dX5_readNumber_20 : decode cX5_readNumber 20 = .ok (.getfield 141, 3) := by decide +kernel
theorem dX5_readNumber_23 : decode cX5_readNumber 23 = .ok (.iload_n 1, 1) := by decide +kernel
theorem dX5_readNumber_24 : decode cX5_readNumber 24 = .ok (.if_icmp .lt 14, 3) := by decide +kernel
theorem dX5_readNumber_27 : decode cX5_readNumber 27 = .ok (.aload_n 0, 1) := by decide +kernel
theorem dX5_readNumber_28 : decode cX5_readNumber 28 = .ok (.getfield 9, 3) := by decide +kernel
theorem dX5_readNumber_31 : decode cX5_readNumber 31 = .ok (.getfield 141, 3) := by decide +kernel
theorem dX5_readNumber_34 : decode cX5_readNumber 34 = .ok (.iload_n 2, 1) := by decide +kernel
theorem dX5_readNumber_35 : decode cX5_readNumber 35 = .ok (.if_icmp .le 16, 3) := by decide +kernel
theorem dX5_readNumber_38 : decode cX5_readNumber 38 = .ok (.aload_n 0, 1) := by decide +kernel
theorem dX5_readNumber_39 : decode cX5_readNumber 39 = .ok (.iconst 4, 1) := by decide +kernel
theorem dX5_readNumber_40 : decode cX5_readNumber 40 = .ok (.aload_n 0, 1) := by decide +kernel
theorem dX5_readNumber_41 : decode cX5_readNumber 41 = .ok (.getfield 9, 3) := by decide +kernel
theorem dX5_readNumber_44 : decode cX5_readNumber 44 = .ok (.getfield 138, 3) := by decide +kernel
theorem dX5_readNumber_47 : decode cX5_readNumber 47 = .ok (.invokevirtual 144, 3) := by decide +kernel
theorem dX5_readNumber_50 : decode cX5_readNumber 50 = .ok (.ireturn, 1) := by decide +kernel
theorem dX5_readNumber_51 : decode cX5_readNumber 51 = .ok (.aload_n 0, 1) := by decide +kernel
theorem dX5_readNumber_52 : decode cX5_readNumber 52 = .ok (.aload_n 0, 1) := by decide +kernel
theorem dX5_readNumber_53 : decode cX5_readNumber 53 = .ok (.getfield 9, 3) := by decide +kernel
theorem dX5_readNumber_56 : decode cX5_readNumber 56 = .ok (.getfield 141, 3) := by decide +kernel
theorem dX5_readNumber_59 : decode cX5_readNumber 59 = .ok (.putfield 109, 3) := by decide +kernel
theorem dX5_readNumber_62 : decode cX5_readNumber 62 = .ok (.aload_n 0, 1) := by decide +kernel
theorem dX5_readNumber_63 : decode cX5_readNumber 63 = .ok (.getfield 9, 3) := by decide +kernel
theorem dX5_readNumber_66 : decode cX5_readNumber 66 = .ok (.invokevirtual 87, 3) := by decide +kernel
theorem dX5_readNumber_69 : decode cX5_readNumber 69 = .ok (.iconst 1, 1) := by decide +kernel
theorem dX5_readNumber_70 : decode cX5_readNumber 70 = .ok (.ireturn, 1) := by decide +kernel
theorem dX5_expect_0 : decode cX5_expect 0 = .ok (.aload_n 0, 1) := by decide +kernel
theorem dX5_expect_1 : decode cX5_expect 1 = .ok (.getfield 9, 3) := by decide +kernel
theorem dX5_expect_4 : decode cX5_expect 4 = .ok (.getfield 46, 3) := by decide +kernel
theorem dX5_expect_7 : decode cX5_expect 7 = .ok (.iload_n 1, 1) := by decide +kernel
theorem dX5_expect_8 : decode cX5_expect 8 = .ok (.if_icmp .eq 8, 3) := by decide +kernel
theorem dX5_expect_11 : decode cX5_expect 11 = .ok (.aload_n 0, 1) := by decide +kernel
theorem dX5_expect_12 : decode cX5_expect 12 = .ok (.invokevirtual 76, 3) := by decide +kernel
theorem dX5_expect_15 : decode cX5_expect 15 = .ok (.ireturn, 1) := by decide +kernel
theorem dX5_expect_16 : decode cX5_expect 16 = .ok (.aload_n 0, 1) := by decide +kernel
theorem dX5_expect_17 : decode cX5_expect 17 = .ok (.getfield 9, 3) := by decide +kernel
theorem dX5_expect_20 : decode cX5_expect 20 = .ok (.invokevirtual 87, 3) := by decide +kernel
theorem dX5_expect_23 : decode cX5_expect 23 = .ok (.iconst 1, 1) := by decide +kernel
theorem dX5_expect_24 : decode cX5_expect 24 = .ok (.ireturn, 1) := by decide +kernel
theorem dX5_refuse_0 : decode cX5_refuse 0 = .ok (.aload_n 0, 1) := by decide +kernel
theorem dX5_refuse_1 : decode cX5_refuse 1 = .ok (.aload_n 0, 1) := by decide +kernel
theorem dX5_refuse_2 : decode cX5_refuse 2 = .ok (.getfield 9, 3) := by decide +kernel
theorem dX5_refuse_5 : decode cX5_refuse 5 = .ok (.getfield 46, 3) := by decide +kernel
theorem dX5_refuse_8 : decode cX5_refuse 8 = .ok (.iconst 1, 1) := by decide +kernel
theorem dX5_refuse_9 : decode cX5_refuse 9 = .ok (.if_icmp .ne 7, 3) := by decide +kernel
theorem dX5_refuse_12 : decode cX5_refuse 12 = .ok (.iconst 1, 1) := by decide +kernel
theorem dX5_refuse_13 : decode cX5_refuse 13 = .ok (.goto 4, 3) := by decide +kernel
theorem dX5_refuse_16 : decode cX5_refuse 16 = .ok (.iconst 2, 1) := by decide +kernel
theorem dX5_refuse_17 : decode cX5_refuse 17 = .ok (.aload_n 0, 1) := by decide +kernel
theorem dX5_refuse_18 : decode cX5_refuse 18 = .ok (.getfield 9, 3) := by decide +kernel
theorem dX5_refuse_21 : decode cX5_refuse 21 = .ok (.getfield 138, 3) := by decide +kernel
theorem dX5_refuse_24 : decode cX5_refuse 24 = .ok (.invokevirtual 144, 3) := by decide +kernel
theorem dX5_refuse_27 : decode cX5_refuse 27 = .ok (.ireturn, 1) := by decide +kernel
theorem dX5_fail_0 : decode cX5_fail 0 = .ok (.aload_n 0, 1) := by decide +kernel
theorem dX5_fail_1 : decode cX5_fail 1 = .ok (.iload_n 1, 1) := by decide +kernel
theorem dX5_fail_2 : decode cX5_fail 2 = .ok (.putfield 24, 3) := by decide +kernel
theorem dX5_fail_5 : decode cX5_fail 5 = .ok (.aload_n 0, 1) := by decide +kernel
theorem dX5_fail_6 : decode cX5_fail 6 = .ok (.iload_n 2, 1) := by decide +kernel
theorem dX5_fail_7 : decode cX5_fail 7 = .ok (.putfield 28, 3) := by decide +kernel
theorem dX5_fail_10 : decode cX5_fail 10 = .ok (.iconst 0, 1) := by decide +kernel
theorem dX5_fail_11 : decode cX5_fail 11 = .ok (.ireturn, 1) := by decide +kernel
theorem dX6_init_0 : decode cX6_init 0 = .ok (.aload_n 0, 1) := by decide +kernel
theorem dX6_init_1 : decode cX6_init 1 = .ok (.invokespecial 3, 3) := by decide +kernel
theorem dX6_init_4 : decode cX6_init 4 = .ok (.aload_n 0, 1) := by decide +kernel
theorem dX6_init_5 : decode cX6_init 5 = .ok (.bipush 30, 2) := by decide +kernel
theorem dX6_init_7 : decode cX6_init 7 = .ok (.newarray .int, 2) := by decide +kernel
theorem dX6_init_9 : decode cX6_init 9 = .ok (.putfield 9, 3) := by decide +kernel
theorem dX6_init_12 : decode cX6_init 12 = .ok (.aload_n 0, 1) := by decide +kernel
theorem dX6_init_13 : decode cX6_init 13 = .ok (.bipush 30, 2) := by decide +kernel
theorem dX6_init_15 : decode cX6_init 15 = .ok (.newarray .int, 2) := by decide +kernel
theorem dX6_init_17 : decode cX6_init 17 = .ok (.putfield 15, 3) := by decide +kernel
theorem dX6_init_20 : decode cX6_init 20 = .ok (.aload_n 0, 1) := by decide +kernel
theorem dX6_init_21 : decode cX6_init 21 = .ok (.bipush 30, 2) := by decide +kernel
theorem dX6_init_23 : decode cX6_init 23 = .ok (.newarray .long, 2) := by decide +kernel
theorem dX6_init_25 : decode cX6_init 25 = .ok (.putfield 18, 3) := by decide +kernel
theorem dX6_init_28 : decode cX6_init 28 = .ok (.aload_n 0, 1) := by decide +kernel
theorem dX6_init_29 : decode cX6_init 29 = .ok (.aload_n 1, 1) := by decide +kernel
theorem dX6_init_30 : decode cX6_init 30 = .ok (.putfield 22, 3) := by decide +kernel
theorem dX6_init_33 : decode cX6_init 33 = .ok (.aload_n 0, 1) := by decide +kernel
theorem dX6_init_34 : decode cX6_init 34 = .ok (.new 26, 3) := by decide +kernel
theorem dX6_init_37 : decode cX6_init 37 = .ok (.dup, 1) := by decide +kernel
theorem dX6_init_38 : decode cX6_init 38 = .ok (.aload_n 1, 1) := by decide +kernel
theorem dX6_init_39 : decode cX6_init 39 = .ok (.invokespecial 28, 3) := by decide +kernel
theorem dX6_init_42 : decode cX6_init 42 = .ok (.putfield 31, 3) := by decide +kernel
theorem dX6_init_45 : decode cX6_init 45 = .ok (.return_, 1) := by decide +kernel
theorem dX6_forget_0 : decode cX6_forget 0 = .ok (.aload_n 0, 1) := by decide +kernel
theorem dX6_forget_1 : decode cX6_forget 1 = .ok (.iconst 0, 1) := by decide +kernel
theorem dX6_forget_2 : decode cX6_forget 2 = .ok (.putfield 35, 3) := by decide +kernel
theorem dX6_forget_5 : decode cX6_forget 5 = .ok (.return_, 1) := by decide +kernel
theorem dX6_tell_0 : decode cX6_tell 0 = .ok (.aload_n 0, 1) := by decide +kernel
theorem dX6_tell_1 : decode cX6_tell 1 = .ok (.getfield 35, 3) := by decide +kernel
theorem dX6_tell_4 : decode cX6_tell 4 = .ok (.ifCond .lt 12, 3) := by decide +kernel
theorem dX6_tell_7 : decode cX6_tell 7 = .ok (.aload_n 0, 1) := by decide +kernel
theorem dX6_tell_8 : decode cX6_tell 8 = .ok (.getfield 35, 3) := by decide +kernel
theorem dX6_tell_11 : decode cX6_tell 11 = .ok (.bipush 30, 2) := by decide +kernel
theorem dX6_tell_13 : decode cX6_tell 13 = .ok (.if_icmp .lt 5, 3) := by decide +kernel
theorem dX6_tell_16 : decode cX6_tell 16 = .ok (.iconst (-1), 1) := by decide +kernel
theorem dX6_tell_17 : decode cX6_tell 17 = .ok (.ireturn, 1) := by decide +kernel
theorem dX6_tell_18 : decode cX6_tell 18 = .ok (.aload_n 0, 1) := by decide +kernel
theorem dX6_tell_19 : decode cX6_tell 19 = .ok (.getfield 9, 3) := by decide +kernel
theorem dX6_tell_22 : decode cX6_tell 22 = .ok (.aload_n 0, 1) := by decide +kernel
theorem dX6_tell_23 : decode cX6_tell 23 = .ok (.getfield 35, 3) := by decide +kernel
theorem dX6_tell_26 : decode cX6_tell 26 = .ok (.aload_n 0, 1) := by decide +kernel
theorem dX6_tell_27 : decode cX6_tell 27 = .ok (.getfield 39, 3) := by decide +kernel
theorem dX6_tell_30 : decode cX6_tell 30 = .ok (.iastore, 1) := by decide +kernel
theorem dX6_tell_31 : decode cX6_tell 31 = .ok (.aload_n 0, 1) := by decide +kernel
theorem dX6_tell_32 : decode cX6_tell 32 = .ok (.getfield 15, 3) := by decide +kernel
theorem dX6_tell_35 : decode cX6_tell 35 = .ok (.aload_n 0, 1) := by decide +kernel
theorem dX6_tell_36 : decode cX6_tell 36 = .ok (.getfield 35, 3) := by decide +kernel
theorem dX6_tell_39 : decode cX6_tell 39 = .ok (.iconst (-1), 1) := by decide +kernel
theorem dX6_tell_40 : decode cX6_tell 40 = .ok (.iastore, 1) := by decide +kernel
theorem dX6_tell_41 : decode cX6_tell 41 = .ok (.aload_n 0, 1) := by decide +kernel
theorem dX6_tell_42 : decode cX6_tell 42 = .ok (.getfield 18, 3) := by decide +kernel
theorem dX6_tell_45 : decode cX6_tell 45 = .ok (.aload_n 0, 1) := by decide +kernel
theorem dX6_tell_46 : decode cX6_tell 46 = .ok (.getfield 35, 3) := by decide +kernel
theorem dX6_tell_49 : decode cX6_tell 49 = .ok (.aload_n 0, 1) := by decide +kernel
theorem dX6_tell_50 : decode cX6_tell 50 = .ok (.iload_n 1, 1) := by decide +kernel
theorem dX6_tell_51 : decode cX6_tell 51 = .ok (.invokevirtual 42, 3) := by decide +kernel
theorem dX6_tell_54 : decode cX6_tell 54 = .ok (.iload_n 2, 1) := by decide +kernel
theorem dX6_tell_55 : decode cX6_tell 55 = .ok (.invokestatic 46, 3) := by decide +kernel
theorem dX6_tell_58 : decode cX6_tell 58 = .ok (.lastore, 1) := by decide +kernel
theorem dX6_tell_59 : decode cX6_tell 59 = .ok (.aload_n 0, 1) := by decide +kernel
theorem dX6_tell_60 : decode cX6_tell 60 = .ok (.dup, 1) := by decide +kernel
theorem dX6_tell_61 : decode cX6_tell 61 = .ok (.getfield 35, 3) := by decide +kernel
theorem dX6_tell_64 : decode cX6_tell 64 = .ok (.iconst 1, 1) := by decide +kernel
theorem dX6_tell_65 : decode cX6_tell 65 = .ok (.iadd, 1) := by decide +kernel
theorem dX6_tell_66 : decode cX6_tell 66 = .ok (.putfield 35, 3) := by decide +kernel
theorem dX6_tell_69 : decode cX6_tell 69 = .ok (.aload_n 0, 1) := by decide +kernel
theorem dX6_tell_70 : decode cX6_tell 70 = .ok (.getfield 35, 3) := by decide +kernel
theorem dX6_tell_73 : decode cX6_tell 73 = .ok (.iconst 1, 1) := by decide +kernel
theorem dX6_tell_74 : decode cX6_tell 74 = .ok (.isub, 1) := by decide +kernel
theorem dX6_tell_75 : decode cX6_tell 75 = .ok (.ireturn, 1) := by decide +kernel
theorem dX6_takeBack_0 : decode cX6_takeBack 0 = .ok (.iload_n 1, 1) := by decide +kernel
theorem dX6_takeBack_1 : decode cX6_takeBack 1 = .ok (.ifCond .lt 27, 3) := by decide +kernel
theorem dX6_takeBack_4 : decode cX6_takeBack 4 = .ok (.iload_n 1, 1) := by decide +kernel
theorem dX6_takeBack_5 : decode cX6_takeBack 5 = .ok (.aload_n 0, 1) := by decide +kernel
theorem dX6_takeBack_6 : decode cX6_takeBack 6 = .ok (.getfield 35, 3) := by decide +kernel
theorem dX6_takeBack_9 : decode cX6_takeBack 9 = .ok (.if_icmp .ge 19, 3) := by decide +kernel
theorem dX6_takeBack_12 : decode cX6_takeBack 12 = .ok (.iload_n 1, 1) := by decide +kernel
theorem dX6_takeBack_13 : decode cX6_takeBack 13 = .ok (.bipush 30, 2) := by decide +kernel
theorem dX6_takeBack_15 : decode cX6_takeBack 15 = .ok (.if_icmp .ge 13, 3) := by decide +kernel
theorem dX6_takeBack_18 : decode cX6_takeBack 18 = .ok (.aload_n 0, 1) := by decide +kernel
theorem dX6_takeBack_19 : decode cX6_takeBack 19 = .ok (.getfield 15, 3) := by decide +kernel
theorem dX6_takeBack_22 : decode cX6_takeBack 22 = .ok (.iload_n 1, 1) := by decide +kernel
theorem dX6_takeBack_23 : decode cX6_takeBack 23 = .ok (.iaload, 1) := by decide +kernel
theorem dX6_takeBack_24 : decode cX6_takeBack 24 = .ok (.iconst (-1), 1) := by decide +kernel
theorem dX6_takeBack_25 : decode cX6_takeBack 25 = .ok (.if_icmp .eq 5, 3) := by decide +kernel
theorem dX6_takeBack_28 : decode cX6_takeBack 28 = .ok (.iconst 0, 1) := by decide +kernel
theorem dX6_takeBack_29 : decode cX6_takeBack 29 = .ok (.ireturn, 1) := by decide +kernel
theorem dX6_takeBack_30 : decode cX6_takeBack 30 = .ok (.aload_n 0, 1) := by decide +kernel
theorem dX6_takeBack_31 : decode cX6_takeBack 31 = .ok (.getfield 15, 3) := by decide +kernel
theorem dX6_takeBack_34 : decode cX6_takeBack 34 = .ok (.iload_n 1, 1) := by decide +kernel
theorem dX6_takeBack_35 : decode cX6_takeBack 35 = .ok (.aload_n 0, 1) := by decide +kernel
theorem dX6_takeBack_36 : decode cX6_takeBack 36 = .ok (.getfield 39, 3) := by decide +kernel
theorem dX6_takeBack_39 : decode cX6_takeBack 39 = .ok (.iastore, 1) := by decide +kernel
theorem dX6_takeBack_40 : decode cX6_takeBack 40 = .ok (.iconst 1, 1) := by decide +kernel
theorem dX6_takeBack_41 : decode cX6_takeBack 41 = .ok (.ireturn, 1) := by decide +kernel
theorem dX6_passTime_0 : decode cX6_passTime 0 = .ok (.iload_n 1, 1) := by decide +kernel
theorem dX6_passTime_1 : decode cX6_passTime 1 = .ok (.ifCond .lt 21, 3) := by decide +kernel
theorem dX6_passTime_4 : decode cX6_passTime 4 = .ok (.iload_n 1, 1) := by decide +kernel
theorem dX6_passTime_5 : decode cX6_passTime 5 = .ok (.sipush 1000, 3) := by decide +kernel
theorem dX6_passTime_8 : decode cX6_passTime 8 = .ok (.if_icmp .gt 14, 3) := by decide +kernel
theorem dX6_passTime_11 : decode cX6_passTime 11 = .ok (.aload_n 0, 1) := by decide +kernel
theorem dX6_passTime_12 : decode cX6_passTime 12 = .ok (.getfield 39, 3) := by decide +kernel
theorem dX6_passTime_15 : decode cX6_passTime 15 = .ok (.iload_n 1, 1) := by decide +kernel
theorem dX6_passTime_16 : decode cX6_passTime 16 = .ok (.iadd, 1) := by decide +kernel
theorem dX6_passTime_17 : decode cX6_passTime 17 = .ok (.ldc 50, 2) := by decide +kernel
theorem dX6_passTime_19 : decode cX6_passTime 19 = .ok (.if_icmp .le 5, 3) := by decide +kernel
theorem dX6_passTime_22 : decode cX6_passTime 22 = .ok (.iconst (-1), 1) := by decide +kernel
theorem dX6_passTime_23 : decode cX6_passTime 23 = .ok (.ireturn, 1) := by decide +kernel
theorem dX6_passTime_24 : decode cX6_passTime 24 = .ok (.aload_n 0, 1) := by decide +kernel
theorem dX6_passTime_25 : decode cX6_passTime 25 = .ok (.dup, 1) := by decide +kernel
theorem dX6_passTime_26 : decode cX6_passTime 26 = .ok (.getfield 39, 3) := by decide +kernel
theorem dX6_passTime_29 : decode cX6_passTime 29 = .ok (.iload_n 1, 1) := by decide +kernel
theorem dX6_passTime_30 : decode cX6_passTime 30 = .ok (.iadd, 1) := by decide +kernel
theorem dX6_passTime_31 : decode cX6_passTime 31 = .ok (.putfield 39, 3) := by decide +kernel
theorem dX6_passTime_34 : decode cX6_passTime 34 = .ok (.aload_n 0, 1) := by decide +kernel
theorem dX6_passTime_35 : decode cX6_passTime 35 = .ok (.getfield 39, 3) := by decide +kernel
theorem dX6_passTime_38 : decode cX6_passTime 38 = .ok (.ireturn, 1) := by decide +kernel
theorem dX6_roadsKnownAt_0 : decode cX6_roadsKnownAt 0 = .ok (.ldc2_w 51, 3) := by decide +kernel
theorem dX6_roadsKnownAt_3 : decode cX6_roadsKnownAt 3 = .ok (.lstore_n 2, 1) := by decide +kernel
theorem dX6_roadsKnownAt_4 : decode cX6_roadsKnownAt 4 = .ok (.iconst 0, 1) := by decide +kernel
theorem dX6_roadsKnownAt_5 : decode cX6_roadsKnownAt 5 = .ok (.istore 4, 2) := by decide +kernel
theorem dX6_roadsKnownAt_7 : decode cX6_roadsKnownAt 7 = .ok (.iload 4, 2) := by decide +kernel
theorem dX6_roadsKnownAt_9 : decode cX6_roadsKnownAt 9 = .ok (.aload_n 0, 1) := by decide +kernel
theorem dX6_roadsKnownAt_10 : decode cX6_roadsKnownAt 10 = .ok (.getfield 35, 3) := by decide +kernel
theorem dX6_roadsKnownAt_13 : decode cX6_roadsKnownAt 13 = .ok (.if_icmp .ge 71, 3) := by decide +kernel
theorem dX6_roadsKnownAt_16 : decode cX6_roadsKnownAt 16 = .ok (.iload 4, 2) := by decide +kernel
theorem dX6_roadsKnownAt_18 : decode cX6_roadsKnownAt 18 = .ok (.bipush 30, 2) := by decide +kernel
theorem dX6_roadsKnownAt_20 : decode cX6_roadsKnownAt 20 = .ok (.if_icmp .ge 64, 3) := by decide +kernel
theorem dX6_roadsKnownAt_23 : decode cX6_roadsKnownAt 23 = .ok (.aload_n 0, 1) := by decide +kernel
theorem dX6_roadsKnownAt_24 : decode cX6_roadsKnownAt 24 = .ok (.getfield 15, 3) := by decide +kernel
theorem dX6_roadsKnownAt_27 : decode cX6_roadsKnownAt 27 = .ok (.iload 4, 2) := by decide +kernel
theorem dX6_roadsKnownAt_29 : decode cX6_roadsKnownAt 29 = .ok (.iaload, 1) := by decide +kernel
theorem dX6_roadsKnownAt_30 : decode cX6_roadsKnownAt 30 = .ok (.iconst (-1), 1) := by decide +kernel
theorem dX6_roadsKnownAt_31 : decode cX6_roadsKnownAt 31 = .ok (.if_icmp .eq 18, 3) := by decide +kernel
theorem dX6_roadsKnownAt_34 : decode cX6_roadsKnownAt 34 = .ok (.aload_n 0, 1) := by decide +kernel
theorem dX6_roadsKnownAt_35 : decode cX6_roadsKnownAt 35 = .ok (.getfield 15, 3) := by decide +kernel
theorem dX6_roadsKnownAt_38 : decode cX6_roadsKnownAt 38 = .ok (.iload 4, 2) := by decide +kernel
theorem dX6_roadsKnownAt_40 : decode cX6_roadsKnownAt 40 = .ok (.iaload, 1) := by decide +kernel
theorem dX6_roadsKnownAt_41 : decode cX6_roadsKnownAt 41 = .ok (.iload_n 1, 1) := by decide +kernel
theorem dX6_roadsKnownAt_42 : decode cX6_roadsKnownAt 42 = .ok (.if_icmp .gt 7, 3) := by decide +kernel
theorem dX6_roadsKnownAt_45 : decode cX6_roadsKnownAt 45 = .ok (.iconst 1, 1) := by decide +kernel
theorem dX6_roadsKnownAt_46 : decode cX6_roadsKnownAt 46 = .ok (.goto 4, 3) := by decide +kernel
theorem dX6_roadsKnownAt_49 : decode cX6_roadsKnownAt 49 = .ok (.iconst 0, 1) := by decide +kernel
theorem dX6_roadsKnownAt_50 : decode cX6_roadsKnownAt 50 = .ok (.istore 5, 2) := by decide +kernel
theorem dX6_roadsKnownAt_52 : decode cX6_roadsKnownAt 52 = .ok (.aload_n 0, 1) := by decide +kernel
theorem dX6_roadsKnownAt_53 : decode cX6_roadsKnownAt 53 = .ok (.getfield 9, 3) := by decide +kernel
theorem dX6_roadsKnownAt_56 : decode cX6_roadsKnownAt 56 = .ok (.iload 4, 2) := by decide +kernel
theorem dX6_roadsKnownAt_58 : decode cX6_roadsKnownAt 58 = .ok (.iaload, 1) := by decide +kernel
theorem dX6_roadsKnownAt_59 : decode cX6_roadsKnownAt 59 = .ok (.iload_n 1, 1) := by decide +kernel
theorem dX6_roadsKnownAt_60 : decode cX6_roadsKnownAt 60 = .ok (.if_icmp .gt 18, 3) := by decide +kernel
theorem dX6_roadsKnownAt_63 : decode cX6_roadsKnownAt 63 = .ok (.iload 5, 2) := by decide +kernel
theorem dX6_roadsKnownAt_65 : decode cX6_roadsKnownAt 65 = .ok (.ifCond .ne 13, 3) := by decide +kernel
theorem dX6_roadsKnownAt_68 : decode cX6_roadsKnownAt 68 = .ok (.lload_n 2, 1) := by decide +kernel
theorem dX6_roadsKnownAt_69 : decode cX6_roadsKnownAt 69 = .ok (.aload_n 0, 1) := by decide +kernel
theorem dX6_roadsKnownAt_70 : decode cX6_roadsKnownAt 70 = .ok (.getfield 18, 3) := by decide +kernel
theorem dX6_roadsKnownAt_73 : decode cX6_roadsKnownAt 73 = .ok (.iload 4, 2) := by decide +kernel
theorem dX6_roadsKnownAt_75 : decode cX6_roadsKnownAt 75 = .ok (.laload, 1) := by decide +kernel
theorem dX6_roadsKnownAt_76 : decode cX6_roadsKnownAt 76 = .ok (.land, 1) := by decide +kernel
theorem dX6_roadsKnownAt_77 : decode cX6_roadsKnownAt 77 = .ok (.lstore_n 2, 1) := by decide +kernel
theorem dX6_roadsKnownAt_78 : decode cX6_roadsKnownAt 78 = .ok (.iinc 4 1, 3) := by decide +kernel
theorem dX6_roadsKnownAt_81 : decode cX6_roadsKnownAt 81 = .ok (.goto (-74), 3) := by decide +kernel
theorem dX6_roadsKnownAt_84 : decode cX6_roadsKnownAt 84 = .ok (.lload_n 2, 1) := by decide +kernel
theorem dX6_roadsKnownAt_85 : decode cX6_roadsKnownAt 85 = .ok (.lreturn, 1) := by decide +kernel
theorem dX6_findQuestion_0 : decode cX6_findQuestion 0 = .ok (.aload_n 0, 1) := by decide +kernel
theorem dX6_findQuestion_1 : decode cX6_findQuestion 1 = .ok (.iload_n 2, 1) := by decide +kernel
theorem dX6_findQuestion_2 : decode cX6_findQuestion 2 = .ok (.invokevirtual 53, 3) := by decide +kernel
theorem dX6_findQuestion_5 : decode cX6_findQuestion 5 = .ok (.lstore_n 3, 1) := by decide +kernel
theorem dX6_findQuestion_6 : decode cX6_findQuestion 6 = .ok (.iload_n 1, 1) := by decide +kernel
theorem dX6_findQuestion_7 : decode cX6_findQuestion 7 = .ok (.ifCond .lt 14, 3) := by decide +kernel
theorem dX6_findQuestion_10 : decode cX6_findQuestion 10 = .ok (.iload_n 1, 1) := by decide +kernel
theorem dX6_findQuestion_11 : decode cX6_findQuestion 11 = .ok (.iconst 1, 1) := by decide +kernel
theorem dX6_findQuestion_12 : decode cX6_findQuestion 12 = .ok (.if_icmp .gt 9, 3) := by decide +kernel
theorem dX6_findQuestion_15 : decode cX6_findQuestion 15 = .ok (.lload_n 3, 1) := by decide +kernel
theorem dX6_findQuestion_16 : decode cX6_findQuestion 16 = .ok (.lconst 0, 1) := by decide +kernel
theorem dX6_findQuestion_17 : decode cX6_findQuestion 17 = .ok (.lcmp, 1) := by decide +kernel
theorem dX6_findQuestion_18 : decode cX6_findQuestion 18 = .ok (.ifCond .ne 5, 3) := by decide +kernel
theorem dX6_findQuestion_21 : decode cX6_findQuestion 21 = .ok (.iconst (-1), 1) := by decide +kernel
theorem dX6_findQuestion_22 : decode cX6_findQuestion 22 = .ok (.ireturn, 1) := by decide +kernel
theorem dX6_findQuestion_23 : decode cX6_findQuestion 23 = .ok (.iconst (-1), 1) := by decide +kernel
theorem dX6_findQuestion_24 : decode cX6_findQuestion 24 = .ok (.istore 5, 2) := by decide +kernel
theorem dX6_findQuestion_26 : decode cX6_findQuestion 26 = .ok (.bipush 61, 2) := by decide +kernel
theorem dX6_findQuestion_28 : decode cX6_findQuestion 28 = .ok (.istore 6, 2) := by decide +kernel
theorem dX6_findQuestion_30 : decode cX6_findQuestion 30 = .ok (.iconst 0, 1) := by decide +kernel
theorem dX6_findQuestion_31 : decode cX6_findQuestion 31 = .ok (.istore 7, 2) := by decide +kernel
theorem dX6_findQuestion_33 : decode cX6_findQuestion 33 = .ok (.iload 7, 2) := by decide +kernel
theorem dX6_findQuestion_35 : decode cX6_findQuestion 35 = .ok (.sipush 600, 3) := by decide +kernel
theorem dX6_findQuestion_38 : decode cX6_findQuestion 38 = .ok (.if_icmp .ge 50, 3) := by decide +kernel
theorem dX6_findQuestion_41 : decode cX6_findQuestion 41 = .ok (.aload_n 0, 1) := by decide +kernel
theorem dX6_findQuestion_42 : decode cX6_findQuestion 42 = .ok (.getfield 22, 3) := by decide +kernel
theorem dX6_findQuestion_45 : decode cX6_findQuestion 45 = .ok (.iload 7, 2) := by decide +kernel
theorem dX6_findQuestion_47 : decode cX6_findQuestion 47 = .ok (.invokevirtual 57, 3) := by decide +kernel
theorem dX6_findQuestion_50 : decode cX6_findQuestion 50 = .ok (.ifCond .eq 13, 3) := by decide +kernel
theorem dX6_findQuestion_53 : decode cX6_findQuestion 53 = .ok (.aload_n 0, 1) := by decide +kernel
theorem dX6_findQuestion_54 : decode cX6_findQuestion 54 = .ok (.iload 7, 2) := by decide +kernel
theorem dX6_findQuestion_56 : decode cX6_findQuestion 56 = .ok (.lload_n 3, 1) := by decide +kernel
theorem dX6_findQuestion_57 : decode cX6_findQuestion 57 = .ok (.invokevirtual 63, 3) := by decide +kernel
theorem dX6_findQuestion_60 : decode cX6_findQuestion 60 = .ok (.goto 5, 3) := by decide +kernel
theorem dX6_findQuestion_63 : decode cX6_findQuestion 63 = .ok (.iload 6, 2) := by decide +kernel
theorem dX6_findQuestion_65 : decode cX6_findQuestion 65 = .ok (.istore 8, 2) := by decide +kernel
theorem dX6_findQuestion_67 : decode cX6_findQuestion 67 = .ok (.iload 8, 2) := by decide +kernel
theorem dX6_findQuestion_69 : decode cX6_findQuestion 69 = .ok (.iload 6, 2) := by decide +kernel
theorem dX6_findQuestion_71 : decode cX6_findQuestion 71 = .ok (.if_icmp .ge 11, 3) := by decide +kernel
theorem dX6_findQuestion_74 : decode cX6_findQuestion 74 = .ok (.iload 7, 2) := by decide +kernel
theorem dX6_findQuestion_76 : decode cX6_findQuestion 76 = .ok (.istore 5, 2) := by decide +kernel
theorem dX6_findQuestion_78 : decode cX6_findQuestion 78 = .ok (.iload 8, 2) := by decide +kernel
theorem dX6_findQuestion_80 : decode cX6_findQuestion 80 = .ok (.istore 6, 2) := by decide +kernel
theorem dX6_findQuestion_82 : decode cX6_findQuestion 82 = .ok (.iinc 7 1, 3) := by decide +kernel
theorem dX6_findQuestion_85 : decode cX6_findQuestion 85 = .ok (.goto (-52), 3) := by decide +kernel
theorem dX6_findQuestion_88 : decode cX6_findQuestion 88 = .ok (.iload 5, 2) := by decide +kernel
theorem dX6_findQuestion_90 : decode cX6_findQuestion 90 = .ok (.iconst (-1), 1) := by decide +kernel
theorem dX6_findQuestion_91 : decode cX6_findQuestion 91 = .ok (.if_icmp .ne 5, 3) := by decide +kernel
theorem dX6_findQuestion_94 : decode cX6_findQuestion 94 = .ok (.iconst (-1), 1) := by decide +kernel
theorem dX6_findQuestion_95 : decode cX6_findQuestion 95 = .ok (.ireturn, 1) := by decide +kernel
theorem dX6_findQuestion_96 : decode cX6_findQuestion 96 = .ok (.iload_n 1, 1) := by decide +kernel
theorem dX6_findQuestion_97 : decode cX6_findQuestion 97 = .ok (.ifCond .ne 8, 3) := by decide +kernel
theorem dX6_findQuestion_100 : decode cX6_findQuestion 100 = .ok (.iload 5, 2) := by decide +kernel
theorem dX6_findQuestion_102 : decode cX6_findQuestion 102 = .ok (.goto 5, 3) := by decide +kernel
theorem dX6_findQuestion_105 : decode cX6_findQuestion 105 = .ok (.iload 6, 2) := by decide +kernel
theorem dX6_findQuestion_107 : decode cX6_findQuestion 107 = .ok (.ireturn, 1) := by decide +kernel
theorem dX6_mostLeft_0 : decode cX6_mostLeft 0 = .ok (.aload_n 0, 1) := by decide +kernel
theorem dX6_mostLeft_1 : decode cX6_mostLeft 1 = .ok (.iload_n 1, 1) := by decide +kernel
theorem dX6_mostLeft_2 : decode cX6_mostLeft 2 = .ok (.invokevirtual 42, 3) := by decide +kernel
theorem dX6_mostLeft_5 : decode cX6_mostLeft 5 = .ok (.istore 4, 2) := by decide +kernel
theorem dX6_mostLeft_7 : decode cX6_mostLeft 7 = .ok (.iconst 0, 1) := by decide +kernel
theorem dX6_mostLeft_8 : decode cX6_mostLeft 8 = .ok (.istore 5, 2) := by decide +kernel
theorem dX6_mostLeft_10 : decode cX6_mostLeft 10 = .ok (.iconst 0, 1) := by decide +kernel
theorem dX6_mostLeft_11 : decode cX6_mostLeft 11 = .ok (.istore 6, 2) := by decide +kernel
theorem dX6_mostLeft_13 : decode cX6_mostLeft 13 = .ok (.iload 6, 2) := by decide +kernel
theorem dX6_mostLeft_15 : decode cX6_mostLeft 15 = .ok (.iconst 2, 1) := by decide +kernel
theorem dX6_mostLeft_16 : decode cX6_mostLeft 16 = .ok (.if_icmp .gt 28, 3) := by decide +kernel
theorem dX6_mostLeft_19 : decode cX6_mostLeft 19 = .ok (.iload 5, 2) := by decide +kernel
theorem dX6_mostLeft_21 : decode cX6_mostLeft 21 = .ok (.lload_n 2, 1) := by decide +kernel
theorem dX6_mostLeft_22 : decode cX6_mostLeft 22 = .ok (.iload 4, 2) := by decide +kernel
theorem dX6_mostLeft_24 : decode cX6_mostLeft 24 = .ok (.iload 6, 2) := by decide +kernel
theorem dX6_mostLeft_26 : decode cX6_mostLeft 26 = .ok (.invokestatic 46, 3) := by decide +kernel
theorem dX6_mostLeft_29 : decode cX6_mostLeft 29 = .ok (.land, 1) := by decide +kernel
theorem dX6_mostLeft_30 : decode cX6_mostLeft 30 = .ok (.invokestatic 67, 3) := by decide +kernel
theorem dX6_mostLeft_33 : decode cX6_mostLeft 33 = .ok (.invokestatic 73, 3) := by decide +kernel
theorem dX6_mostLeft_36 : decode cX6_mostLeft 36 = .ok (.istore 5, 2) := by decide +kernel
theorem dX6_mostLeft_38 : decode cX6_mostLeft 38 = .ok (.iinc 6 1, 3) := by decide +kernel
theorem dX6_mostLeft_41 : decode cX6_mostLeft 41 = .ok (.goto (-28), 3) := by decide +kernel
theorem dX6_mostLeft_44 : decode cX6_mostLeft 44 = .ok (.iload 5, 2) := by decide +kernel
theorem dX6_mostLeft_46 : decode cX6_mostLeft 46 = .ok (.ireturn, 1) := by decide +kernel
theorem dX6_toldLength_0 : decode cX6_toldLength 0 = .ok (.aload_n 0, 1) := by decide +kernel
theorem dX6_toldLength_1 : decode cX6_toldLength 1 = .ok (.getfield 31, 3) := by decide +kernel
theorem dX6_toldLength_4 : decode cX6_toldLength 4 = .ok (.iload_n 1, 1) := by decide +kernel
theorem dX6_toldLength_5 : decode cX6_toldLength 5 = .ok (.invokevirtual 79, 3) := by decide +kernel
theorem dX6_toldLength_8 : decode cX6_toldLength 8 = .ok (.aload_n 0, 1) := by decide +kernel
theorem dX6_toldLength_9 : decode cX6_toldLength 9 = .ok (.getfield 31, 3) := by decide +kernel
theorem dX6_toldLength_12 : decode cX6_toldLength 12 = .ok (.aload_n 0, 1) := by decide +kernel
theorem dX6_toldLength_13 : decode cX6_toldLength 13 = .ok (.getfield 22, 3) := by decide +kernel
theorem dX6_toldLength_16 : decode cX6_toldLength 16 = .ok (.getfield 83, 3) := by decide +kernel
theorem dX6_toldLength_19 : decode cX6_toldLength 19 = .ok (.bipush 60, 2) := by decide +kernel
theorem dX6_toldLength_21 : decode cX6_toldLength 21 = .ok (.invokevirtual 86, 3) := by decide +kernel
theorem dX6_toldLength_24 : decode cX6_toldLength 24 = .ok (.istore_n 2, 1) := by decide +kernel
theorem dX6_toldLength_25 : decode cX6_toldLength 25 = .ok (.iload_n 2, 1) := by decide +kernel
theorem dX6_toldLength_26 : decode cX6_toldLength 26 = .ok (.iconst (-1), 1) := by decide +kernel
theorem dX6_toldLength_27 : decode cX6_toldLength 27 = .ok (.if_icmp .ne 8, 3) := by decide +kernel
theorem dX6_toldLength_30 : decode cX6_toldLength 30 = .ok (.bipush 61, 2) := by decide +kernel
theorem dX6_toldLength_32 : decode cX6_toldLength 32 = .ok (.goto 4, 3) := by decide +kernel
theorem dX6_toldLength_35 : decode cX6_toldLength 35 = .ok (.iload_n 2, 1) := by decide +kernel
theorem dX6_toldLength_36 : decode cX6_toldLength 36 = .ok (.ireturn, 1) := by decide +kernel
theorem dX6_roadsBy_0 : decode cX6_roadsBy 0 = .ok (.iload_n 0, 1) := by decide +kernel
theorem dX6_roadsBy_1 : decode cX6_roadsBy 1 = .ok (.bipush 60, 2) := by decide +kernel
theorem dX6_roadsBy_3 : decode cX6_roadsBy 3 = .ok (.if_icmp .le 9, 3) := by decide +kernel
theorem dX6_roadsBy_6 : decode cX6_roadsBy 6 = .ok (.ldc2_w 51, 3) := by decide +kernel
theorem dX6_roadsBy_9 : decode cX6_roadsBy 9 = .ok (.goto 10, 3) := by decide +kernel
theorem dX6_roadsBy_12 : decode cX6_roadsBy 12 = .ok (.lconst 1, 1) := by decide +kernel
theorem dX6_roadsBy_13 : decode cX6_roadsBy 13 = .ok (.iload_n 0, 1) := by decide +kernel
theorem dX6_roadsBy_14 : decode cX6_roadsBy 14 = .ok (.iconst 1, 1) := by decide +kernel
theorem dX6_roadsBy_15 : decode cX6_roadsBy 15 = .ok (.isub, 1) := by decide +kernel
theorem dX6_roadsBy_16 : decode cX6_roadsBy 16 = .ok (.lshl, 1) := by decide +kernel
theorem dX6_roadsBy_17 : decode cX6_roadsBy 17 = .ok (.lconst 1, 1) := by decide +kernel
theorem dX6_roadsBy_18 : decode cX6_roadsBy 18 = .ok (.lsub, 1) := by decide +kernel
theorem dX6_roadsBy_19 : decode cX6_roadsBy 19 = .ok (.lstore_n 2, 1) := by decide +kernel
theorem dX6_roadsBy_20 : decode cX6_roadsBy 20 = .ok (.iload_n 0, 1) := by decide +kernel
theorem dX6_roadsBy_21 : decode cX6_roadsBy 21 = .ok (.bipush 60, 2) := by decide +kernel
theorem dX6_roadsBy_23 : decode cX6_roadsBy 23 = .ok (.if_icmp .le 7, 3) := by decide +kernel
theorem dX6_roadsBy_26 : decode cX6_roadsBy 26 = .ok (.lconst 0, 1) := by decide +kernel
theorem dX6_roadsBy_27 : decode cX6_roadsBy 27 = .ok (.goto 8, 3) := by decide +kernel
theorem dX6_roadsBy_30 : decode cX6_roadsBy 30 = .ok (.lconst 1, 1) := by decide +kernel
theorem dX6_roadsBy_31 : decode cX6_roadsBy 31 = .ok (.iload_n 0, 1) := by decide +kernel
theorem dX6_roadsBy_32 : decode cX6_roadsBy 32 = .ok (.iconst 1, 1) := by decide +kernel
theorem dX6_roadsBy_33 : decode cX6_roadsBy 33 = .ok (.isub, 1) := by decide +kernel
theorem dX6_roadsBy_34 : decode cX6_roadsBy 34 = .ok (.lshl, 1) := by decide +kernel
theorem dX6_roadsBy_35 : decode cX6_roadsBy 35 = .ok (.lstore 4, 2) := by decide +kernel
theorem dX6_roadsBy_37 : decode cX6_roadsBy 37 = .ok (.iload_n 1, 1) := by decide +kernel
theorem dX6_roadsBy_38 : decode cX6_roadsBy 38 = .ok (.iconst 2, 1) := by decide +kernel
theorem dX6_roadsBy_39 : decode cX6_roadsBy 39 = .ok (.if_icmp .ne 5, 3) := by decide +kernel
theorem dX6_roadsBy_42 : decode cX6_roadsBy 42 = .ok (.lload_n 2, 1) := by decide +kernel
theorem dX6_roadsBy_43 : decode cX6_roadsBy 43 = .ok (.lreturn, 1) := by decide +kernel
theorem dX6_roadsBy_44 : decode cX6_roadsBy 44 = .ok (.iload_n 1, 1) := by decide +kernel
theorem dX6_roadsBy_45 : decode cX6_roadsBy 45 = .ok (.iconst 1, 1) := by decide +kernel
theorem dX6_roadsBy_46 : decode cX6_roadsBy 46 = .ok (.if_icmp .ne 8, 3) := by decide +kernel
theorem dX6_roadsBy_49 : decode cX6_roadsBy 49 = .ok (.lload 4, 2) := by decide +kernel
theorem dX6_roadsBy_51 : decode cX6_roadsBy 51 = .ok (.goto 19, 3) := by decide +kernel
theorem dX6_roadsBy_54 : decode cX6_roadsBy 54 = .ok (.ldc2_w 51, 3) := by decide +kernel
theorem dX6_roadsBy_57 : decode cX6_roadsBy 57 = .ok (.lload_n 2, 1) := by decide +kernel
theorem dX6_roadsBy_58 : decode cX6_roadsBy 58 = .ok (.ldc2_w 90, 3) := by decide +kernel
theorem dX6_roadsBy_61 : decode cX6_roadsBy 61 = .ok (.lxor, 1) := by decide +kernel
theorem dX6_roadsBy_62 : decode cX6_roadsBy 62 = .ok (.land, 1) := by decide +kernel
theorem dX6_roadsBy_63 : decode cX6_roadsBy 63 = .ok (.lload 4, 2) := by decide +kernel
theorem dX6_roadsBy_65 : decode cX6_roadsBy 65 = .ok (.ldc2_w 90, 3) := by decide +kernel
theorem dX6_roadsBy_68 : decode cX6_roadsBy 68 = .ok (.lxor, 1) := by decide +kernel
theorem dX6_roadsBy_69 : decode cX6_roadsBy 69 = .ok (.land, 1) := by decide +kernel
theorem dX6_roadsBy_70 : decode cX6_roadsBy 70 = .ok (.lreturn, 1) := by decide +kernel
theorem dX7_init_0 : decode cX7_init 0 = .ok (.aload_n 0, 1) := by decide +kernel
theorem dX7_init_1 : decode cX7_init 1 = .ok (.invokespecial 3, 3) := by decide +kernel
theorem dX7_init_4 : decode cX7_init 4 = .ok (.aload_n 0, 1) := by decide +kernel
theorem dX7_init_5 : decode cX7_init 5 = .ok (.bipush 12, 2) := by decide +kernel
theorem dX7_init_7 : decode cX7_init 7 = .ok (.newarray .int, 2) := by decide +kernel
theorem dX7_init_9 : decode cX7_init 9 = .ok (.putfield 9, 3) := by decide +kernel
theorem dX7_init_12 : decode cX7_init 12 = .ok (.aload_n 0, 1) := by decide +kernel
theorem dX7_init_13 : decode cX7_init 13 = .ok (.bipush 12, 2) := by decide +kernel
theorem dX7_init_15 : decode cX7_init 15 = .ok (.newarray .int, 2) := by decide +kernel
theorem dX7_init_17 : decode cX7_init 17 = .ok (.putfield 15, 3) := by decide +kernel
theorem dX7_init_20 : decode cX7_init 20 = .ok (.aload_n 0, 1) := by decide +kernel
theorem dX7_init_21 : decode cX7_init 21 = .ok (.iconst 0, 1) := by decide +kernel
theorem dX7_init_22 : decode cX7_init 22 = .ok (.putfield 18, 3) := by decide +kernel
theorem dX7_init_25 : decode cX7_init 25 = .ok (.aload_n 0, 1) := by decide +kernel
theorem dX7_init_26 : decode cX7_init 26 = .ok (.iconst (-1), 1) := by decide +kernel
theorem dX7_init_27 : decode cX7_init 27 = .ok (.putfield 22, 3) := by decide +kernel
theorem dX7_init_30 : decode cX7_init 30 = .ok (.return_, 1) := by decide +kernel
theorem dX7_reset_0 : decode cX7_reset 0 = .ok (.aload_n 0, 1) := by decide +kernel
theorem dX7_reset_1 : decode cX7_reset 1 = .ok (.iconst 0, 1) := by decide +kernel
theorem dX7_reset_2 : decode cX7_reset 2 = .ok (.putfield 18, 3) := by decide +kernel
theorem dX7_reset_5 : decode cX7_reset 5 = .ok (.aload_n 0, 1) := by decide +kernel
theorem dX7_reset_6 : decode cX7_reset 6 = .ok (.iload_n 1, 1) := by decide +kernel
theorem dX7_reset_7 : decode cX7_reset 7 = .ok (.putfield 22, 3) := by decide +kernel
theorem dX7_reset_10 : decode cX7_reset 10 = .ok (.return_, 1) := by decide +kernel
theorem dX7_append_0 : decode cX7_append 0 = .ok (.aload_n 1, 1) := by decide +kernel
theorem dX7_append_1 : decode cX7_append 1 = .ok (.iload_n 2, 1) := by decide +kernel
theorem dX7_append_2 : decode cX7_append 2 = .ok (.aload_n 0, 1) := by decide +kernel
theorem dX7_append_3 : decode cX7_append 3 = .ok (.getfield 22, 3) := by decide +kernel
theorem dX7_append_6 : decode cX7_append 6 = .ok (.invokevirtual 25, 3) := by decide +kernel
theorem dX7_append_9 : decode cX7_append 9 = .ok (.istore_n 3, 1) := by decide +kernel
theorem dX7_append_10 : decode cX7_append 10 = .ok (.aload_n 0, 1) := by decide +kernel
theorem dX7_append_11 : decode cX7_append 11 = .ok (.getfield 22, 3) := by decide +kernel
theorem dX7_append_14 : decode cX7_append 14 = .ok (.iconst (-1), 1) := by decide +kernel
theorem dX7_append_15 : decode cX7_append 15 = .ok (.if_icmp .eq 24, 3) := by decide +kernel
theorem dX7_append_18 : decode cX7_append 18 = .ok (.iload_n 3, 1) := by decide +kernel
theorem dX7_append_19 : decode cX7_append 19 = .ok (.iconst (-1), 1) := by decide +kernel
theorem dX7_append_20 : decode cX7_append 20 = .ok (.if_icmp .eq 19, 3) := by decide +kernel
theorem dX7_append_23 : decode cX7_append 23 = .ok (.aload_n 0, 1) := by decide +kernel
theorem dX7_append_24 : decode cX7_append 24 = .ok (.getfield 18, 3) := by decide +kernel
theorem dX7_append_27 : decode cX7_append 27 = .ok (.ifCond .lt 12, 3) := by decide +kernel
theorem dX7_append_30 : decode cX7_append 30 = .ok (.aload_n 0, 1) := by decide +kernel
theorem dX7_append_31 : decode cX7_append 31 = .ok (.getfield 18, 3) := by decide +kernel
theorem dX7_append_34 : decode cX7_append 34 = .ok (.bipush 12, 2) := by decide +kernel
theorem dX7_append_36 : decode cX7_append 36 = .ok (.if_icmp .lt 5, 3) := by decide +kernel
theorem dX7_append_39 : decode cX7_append 39 = .ok (.iconst 0, 1) := by decide +kernel
theorem dX7_append_40 : decode cX7_append 40 = .ok (.ireturn, 1) := by decide +kernel
theorem dX7_append_41 : decode cX7_append 41 = .ok (.aload_n 0, 1) := by decide +kernel
theorem dX7_append_42 : decode cX7_append 42 = .ok (.getfield 9, 3) := by decide +kernel
theorem dX7_append_45 : decode cX7_append 45 = .ok (.aload_n 0, 1) := by decide +kernel
theorem dX7_append_46 : decode cX7_append 46 = .ok (.getfield 18, 3) := by decide +kernel
theorem dX7_append_49 : decode cX7_append 49 = .ok (.iload_n 2, 1) := by decide +kernel
