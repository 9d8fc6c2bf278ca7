theorem dX7_append_50 : decode cX7_append 50 = .ok (.iastore, 1) := by decide +kernel
theorem dX7_append_51 : decode cX7_append 51 = .ok (.aload_n 0, 1) := by decide +kernel
theorem dX7_append_52 : decode cX7_append 52 = .ok (.getfield 15, 3) := by decide +kernel
theorem dX7_append_55 : decode cX7_append 55 = .ok (.aload_n 0, 1) := by decide +kernel
theorem dX7_append_56 : decode cX7_append 56 = .ok (.getfield 18, 3) := by decide +kernel
theorem dX7_append_59 : decode cX7_append 59 = .ok (.iload_n 3, 1) := by decide +kernel
theorem dX7_append_60 : decode cX7_append 60 = .ok (.iastore, 1) := by decide +kernel
theorem dX7_append_61 : decode cX7_append 61 = .ok (.aload_n 0, 1) := by decide +kernel
theorem dX7_append_62 : decode cX7_append 62 = .ok (.dup, 1) := by decide +kernel
theorem dX7_append_63 : decode cX7_append 63 = .ok (.getfield 18, 3) := by decide +kernel
theorem dX7_append_66 : decode cX7_append 66 = .ok (.iconst 1, 1) := by decide +kernel
theorem dX7_append_67 : decode cX7_append 67 = .ok (.iadd, 1) := by decide +kernel
theorem dX7_append_68 : decode cX7_append 68 = .ok (.putfield 18, 3) := by decide +kernel
theorem dX7_append_71 : decode cX7_append 71 = .ok (.aload_n 0, 1) := by decide +kernel
theorem dX7_append_72 : decode cX7_append 72 = .ok (.iload_n 3, 1) := by decide +kernel
theorem dX7_append_73 : decode cX7_append 73 = .ok (.putfield 22, 3) := by decide +kernel
theorem dX7_append_76 : decode cX7_append 76 = .ok (.iconst 1, 1) := by decide +kernel
theorem dX7_append_77 : decode cX7_append 77 = .ok (.ireturn, 1) := by decide +kernel
theorem dX8_init_0 : decode cX8_init 0 = .ok (.aload_n 0, 1) := by decide +kernel
theorem dX8_init_1 : decode cX8_init 1 = .ok (.invokespecial 3, 3) := by decide +kernel
theorem dX8_init_4 : decode cX8_init 4 = .ok (.aload_n 0, 1) := by decide +kernel
theorem dX8_init_5 : decode cX8_init 5 = .ok (.aload_n 1, 1) := by decide +kernel
theorem dX8_init_6 : decode cX8_init 6 = .ok (.putfield 9, 3) := by decide +kernel
theorem dX8_init_9 : decode cX8_init 9 = .ok (.aload_n 0, 1) := by decide +kernel
theorem dX8_init_10 : decode cX8_init 10 = .ok (.new 15, 3) := by decide +kernel
theorem dX8_init_13 : decode cX8_init 13 = .ok (.dup, 1) := by decide +kernel
theorem dX8_init_14 : decode cX8_init 14 = .ok (.aload_n 1, 1) := by decide +kernel
theorem dX8_init_15 : decode cX8_init 15 = .ok (.invokespecial 17, 3) := by decide +kernel
theorem dX8_init_18 : decode cX8_init 18 = .ok (.putfield 20, 3) := by decide +kernel
theorem dX8_init_21 : decode cX8_init 21 = .ok (.return_, 1) := by decide +kernel
theorem dX8_begin_0 : decode cX8_begin 0 = .ok (.aload_n 0, 1) := by decide +kernel
theorem dX8_begin_1 : decode cX8_begin 1 = .ok (.getfield 20, 3) := by decide +kernel
theorem dX8_begin_4 : decode cX8_begin 4 = .ok (.iload_n 1, 1) := by decide +kernel
theorem dX8_begin_5 : decode cX8_begin 5 = .ok (.invokevirtual 24, 3) := by decide +kernel
theorem dX8_begin_8 : decode cX8_begin 8 = .ok (.aload_n 0, 1) := by decide +kernel
theorem dX8_begin_9 : decode cX8_begin 9 = .ok (.iconst 0, 1) := by decide +kernel
theorem dX8_begin_10 : decode cX8_begin 10 = .ok (.putfield 28, 3) := by decide +kernel
theorem dX8_begin_13 : decode cX8_begin 13 = .ok (.aload_n 0, 1) := by decide +kernel
theorem dX8_begin_14 : decode cX8_begin 14 = .ok (.iconst 0, 1) := by decide +kernel
theorem dX8_begin_15 : decode cX8_begin 15 = .ok (.putfield 32, 3) := by decide +kernel
theorem dX8_begin_18 : decode cX8_begin 18 = .ok (.return_, 1) := by decide +kernel
theorem dX8_goOn_0 : decode cX8_goOn 0 = .ok (.aload_n 0, 1) := by decide +kernel
theorem dX8_goOn_1 : decode cX8_goOn 1 = .ok (.getfield 28, 3) := by decide +kernel
theorem dX8_goOn_4 : decode cX8_goOn 4 = .ok (.ifCond .lt 111, 3) := by decide +kernel
theorem dX8_goOn_7 : decode cX8_goOn 7 = .ok (.aload_n 0, 1) := by decide +kernel
theorem dX8_goOn_8 : decode cX8_goOn 8 = .ok (.getfield 28, 3) := by decide +kernel
theorem dX8_goOn_11 : decode cX8_goOn 11 = .ok (.aload_n 2, 1) := by decide +kernel
theorem dX8_goOn_12 : decode cX8_goOn 12 = .ok (.getfield 35, 3) := by decide +kernel
theorem dX8_goOn_15 : decode cX8_goOn 15 = .ok (.if_icmp .ge 100, 3) := by decide +kernel
theorem dX8_goOn_18 : decode cX8_goOn 18 = .ok (.aload_n 0, 1) := by decide +kernel
theorem dX8_goOn_19 : decode cX8_goOn 19 = .ok (.getfield 28, 3) := by decide +kernel
theorem dX8_goOn_22 : decode cX8_goOn 22 = .ok (.bipush 12, 2) := by decide +kernel
theorem dX8_goOn_24 : decode cX8_goOn 24 = .ok (.if_icmp .ge 91, 3) := by decide +kernel
theorem dX8_goOn_27 : decode cX8_goOn 27 = .ok (.aload_n 2, 1) := by decide +kernel
theorem dX8_goOn_28 : decode cX8_goOn 28 = .ok (.getfield 40, 3) := by decide +kernel
theorem dX8_goOn_31 : decode cX8_goOn 31 = .ok (.aload_n 0, 1) := by decide +kernel
theorem dX8_goOn_32 : decode cX8_goOn 32 = .ok (.getfield 28, 3) := by decide +kernel
theorem dX8_goOn_35 : decode cX8_goOn 35 = .ok (.iaload, 1) := by decide +kernel
theorem dX8_goOn_36 : decode cX8_goOn 36 = .ok (.istore_n 3, 1) := by decide +kernel
theorem dX8_goOn_37 : decode cX8_goOn 37 = .ok (.aload_n 0, 1) := by decide +kernel
theorem dX8_goOn_38 : decode cX8_goOn 38 = .ok (.iload_n 3, 1) := by decide +kernel
theorem dX8_goOn_39 : decode cX8_goOn 39 = .ok (.invokevirtual 44, 3) := by decide +kernel
theorem dX8_goOn_42 : decode cX8_goOn 42 = .ok (.istore 4, 2) := by decide +kernel
theorem dX8_goOn_44 : decode cX8_goOn 44 = .ok (.aload_n 0, 1) := by decide +kernel
theorem dX8_goOn_45 : decode cX8_goOn 45 = .ok (.getfield 32, 3) := by decide +kernel
theorem dX8_goOn_48 : decode cX8_goOn 48 = .ok (.iload 4, 2) := by decide +kernel
theorem dX8_goOn_50 : decode cX8_goOn 50 = .ok (.if_icmp .ge 47, 3) := by decide +kernel
theorem dX8_goOn_53 : decode cX8_goOn 53 = .ok (.aload_n 0, 1) := by decide +kernel
theorem dX8_goOn_54 : decode cX8_goOn 54 = .ok (.dup, 1) := by decide +kernel
theorem dX8_goOn_55 : decode cX8_goOn 55 = .ok (.getfield 32, 3) := by decide +kernel
theorem dX8_goOn_58 : decode cX8_goOn 58 = .ok (.iconst 1, 1) := by decide +kernel
theorem dX8_goOn_59 : decode cX8_goOn 59 = .ok (.iadd, 1) := by decide +kernel
theorem dX8_goOn_60 : decode cX8_goOn 60 = .ok (.putfield 32, 3) := by decide +kernel
theorem dX8_goOn_63 : decode cX8_goOn 63 = .ok (.aload_n 0, 1) := by decide +kernel
theorem dX8_goOn_64 : decode cX8_goOn 64 = .ok (.getfield 20, 3) := by decide +kernel
theorem dX8_goOn_67 : decode cX8_goOn 67 = .ok (.aload_n 1, 1) := by decide +kernel
theorem dX8_goOn_68 : decode cX8_goOn 68 = .ok (.iload_n 3, 1) := by decide +kernel
theorem dX8_goOn_69 : decode cX8_goOn 69 = .ok (.aload_n 0, 1) := by decide +kernel
theorem dX8_goOn_70 : decode cX8_goOn 70 = .ok (.getfield 32, 3) := by decide +kernel
theorem dX8_goOn_73 : decode cX8_goOn 73 = .ok (.aload_n 2, 1) := by decide +kernel
theorem dX8_goOn_74 : decode cX8_goOn 74 = .ok (.getfield 48, 3) := by decide +kernel
theorem dX8_goOn_77 : decode cX8_goOn 77 = .ok (.aload_n 0, 1) := by decide +kernel
theorem dX8_goOn_78 : decode cX8_goOn 78 = .ok (.getfield 28, 3) := by decide +kernel
theorem dX8_goOn_81 : decode cX8_goOn 81 = .ok (.iaload, 1) := by decide +kernel
theorem dX8_goOn_82 : decode cX8_goOn 82 = .ok (.invokevirtual 51, 3) := by decide +kernel
theorem dX8_goOn_85 : decode cX8_goOn 85 = .ok (.aload_n 0, 1) := by decide +kernel
theorem dX8_goOn_86 : decode cX8_goOn 86 = .ok (.getfield 20, 3) := by decide +kernel
theorem dX8_goOn_89 : decode cX8_goOn 89 = .ok (.invokevirtual 55, 3) := by decide +kernel
theorem dX8_goOn_92 : decode cX8_goOn 92 = .ok (.ifCond .eq (-48), 3) := by decide +kernel
theorem dX8_goOn_95 : decode cX8_goOn 95 = .ok (.iconst 1, 1) := by decide +kernel
theorem dX8_goOn_96 : decode cX8_goOn 96 = .ok (.ireturn, 1) := by decide +kernel
theorem dX8_goOn_97 : decode cX8_goOn 97 = .ok (.aload_n 0, 1) := by decide +kernel
theorem dX8_goOn_98 : decode cX8_goOn 98 = .ok (.dup, 1) := by decide +kernel
theorem dX8_goOn_99 : decode cX8_goOn 99 = .ok (.getfield 28, 3) := by decide +kernel
theorem dX8_goOn_102 : decode cX8_goOn 102 = .ok (.iconst 1, 1) := by decide +kernel
theorem dX8_goOn_103 : decode cX8_goOn 103 = .ok (.iadd, 1) := by decide +kernel
theorem dX8_goOn_104 : decode cX8_goOn 104 = .ok (.putfield 28, 3) := by decide +kernel
theorem dX8_goOn_107 : decode cX8_goOn 107 = .ok (.aload_n 0, 1) := by decide +kernel
theorem dX8_goOn_108 : decode cX8_goOn 108 = .ok (.iconst 0, 1) := by decide +kernel
theorem dX8_goOn_109 : decode cX8_goOn 109 = .ok (.putfield 32, 3) := by decide +kernel
theorem dX8_goOn_112 : decode cX8_goOn 112 = .ok (.goto (-112), 3) := by decide +kernel
theorem dX8_goOn_115 : decode cX8_goOn 115 = .ok (.iconst 0, 1) := by decide +kernel
theorem dX8_goOn_116 : decode cX8_goOn 116 = .ok (.ireturn, 1) := by decide +kernel
theorem dX8_isAtEnd_0 : decode cX8_isAtEnd 0 = .ok (.aload_n 1, 1) := by decide +kernel
theorem dX8_isAtEnd_1 : decode cX8_isAtEnd 1 = .ok (.getfield 35, 3) := by decide +kernel
theorem dX8_isAtEnd_4 : decode cX8_isAtEnd 4 = .ok (.iconst 1, 1) := by decide +kernel
theorem dX8_isAtEnd_5 : decode cX8_isAtEnd 5 = .ok (.isub, 1) := by decide +kernel
theorem dX8_isAtEnd_6 : decode cX8_isAtEnd 6 = .ok (.istore_n 2, 1) := by decide +kernel
theorem dX8_isAtEnd_7 : decode cX8_isAtEnd 7 = .ok (.aload_n 0, 1) := by decide +kernel
theorem dX8_isAtEnd_8 : decode cX8_isAtEnd 8 = .ok (.getfield 28, 3) := by decide +kernel
theorem dX8_isAtEnd_11 : decode cX8_isAtEnd 11 = .ok (.iload_n 2, 1) := by decide +kernel
theorem dX8_isAtEnd_12 : decode cX8_isAtEnd 12 = .ok (.if_icmp .gt 13, 3) := by decide +kernel
theorem dX8_isAtEnd_15 : decode cX8_isAtEnd 15 = .ok (.iload_n 2, 1) := by decide +kernel
theorem dX8_isAtEnd_16 : decode cX8_isAtEnd 16 = .ok (.ifCond .lt 9, 3) := by decide +kernel
theorem dX8_isAtEnd_19 : decode cX8_isAtEnd 19 = .ok (.iload_n 2, 1) := by decide +kernel
theorem dX8_isAtEnd_20 : decode cX8_isAtEnd 20 = .ok (.bipush 12, 2) := by decide +kernel
theorem dX8_isAtEnd_22 : decode cX8_isAtEnd 22 = .ok (.if_icmp .lt 5, 3) := by decide +kernel
theorem dX8_isAtEnd_25 : decode cX8_isAtEnd 25 = .ok (.iconst 1, 1) := by decide +kernel
theorem dX8_isAtEnd_26 : decode cX8_isAtEnd 26 = .ok (.ireturn, 1) := by decide +kernel
theorem dX8_isAtEnd_27 : decode cX8_isAtEnd 27 = .ok (.aload_n 0, 1) := by decide +kernel
theorem dX8_isAtEnd_28 : decode cX8_isAtEnd 28 = .ok (.getfield 28, 3) := by decide +kernel
theorem dX8_isAtEnd_31 : decode cX8_isAtEnd 31 = .ok (.iload_n 2, 1) := by decide +kernel
theorem dX8_isAtEnd_32 : decode cX8_isAtEnd 32 = .ok (.if_icmp .ne 24, 3) := by decide +kernel
theorem dX8_isAtEnd_35 : decode cX8_isAtEnd 35 = .ok (.aload_n 0, 1) := by decide +kernel
theorem dX8_isAtEnd_36 : decode cX8_isAtEnd 36 = .ok (.getfield 32, 3) := by decide +kernel
theorem dX8_isAtEnd_39 : decode cX8_isAtEnd 39 = .ok (.aload_n 0, 1) := by decide +kernel
theorem dX8_isAtEnd_40 : decode cX8_isAtEnd 40 = .ok (.aload_n 1, 1) := by decide +kernel
theorem dX8_isAtEnd_41 : decode cX8_isAtEnd 41 = .ok (.getfield 40, 3) := by decide +kernel
theorem dX8_isAtEnd_44 : decode cX8_isAtEnd 44 = .ok (.iload_n 2, 1) := by decide +kernel
theorem dX8_isAtEnd_45 : decode cX8_isAtEnd 45 = .ok (.iaload, 1) := by decide +kernel
theorem dX8_isAtEnd_46 : decode cX8_isAtEnd 46 = .ok (.invokevirtual 44, 3) := by decide +kernel
theorem dX8_isAtEnd_49 : decode cX8_isAtEnd 49 = .ok (.if_icmp .lt 7, 3) := by decide +kernel
theorem dX8_isAtEnd_52 : decode cX8_isAtEnd 52 = .ok (.iconst 1, 1) := by decide +kernel
theorem dX8_isAtEnd_53 : decode cX8_isAtEnd 53 = .ok (.goto 4, 3) := by decide +kernel
theorem dX8_isAtEnd_56 : decode cX8_isAtEnd 56 = .ok (.iconst 0, 1) := by decide +kernel
theorem dX8_isAtEnd_57 : decode cX8_isAtEnd 57 = .ok (.ireturn, 1) := by decide +kernel
theorem dX8_lengthOf_0 : decode cX8_lengthOf 0 = .ok (.aload_n 0, 1) := by decide +kernel
theorem dX8_lengthOf_1 : decode cX8_lengthOf 1 = .ok (.getfield 9, 3) := by decide +kernel
theorem dX8_lengthOf_4 : decode cX8_lengthOf 4 = .ok (.iload_n 1, 1) := by decide +kernel
theorem dX8_lengthOf_5 : decode cX8_lengthOf 5 = .ok (.invokevirtual 59, 3) := by decide +kernel
theorem dX8_lengthOf_8 : decode cX8_lengthOf 8 = .ok (.ifCond .eq 15, 3) := by decide +kernel
theorem dX8_lengthOf_11 : decode cX8_lengthOf 11 = .ok (.aload_n 0, 1) := by decide +kernel
theorem dX8_lengthOf_12 : decode cX8_lengthOf 12 = .ok (.getfield 9, 3) := by decide +kernel
theorem dX8_lengthOf_15 : decode cX8_lengthOf 15 = .ok (.getfield 65, 3) := by decide +kernel
theorem dX8_lengthOf_18 : decode cX8_lengthOf 18 = .ok (.iload_n 1, 1) := by decide +kernel
theorem dX8_lengthOf_19 : decode cX8_lengthOf 19 = .ok (.iaload, 1) := by decide +kernel
theorem dX8_lengthOf_20 : decode cX8_lengthOf 20 = .ok (.goto 4, 3) := by decide +kernel
theorem dX8_lengthOf_23 : decode cX8_lengthOf 23 = .ok (.iconst 0, 1) := by decide +kernel
theorem dX8_lengthOf_24 : decode cX8_lengthOf 24 = .ok (.ireturn, 1) := by decide +kernel
theorem dX9_init_0 : decode cX9_init 0 = .ok (.aload_n 0, 1) := by decide +kernel
theorem dX9_init_1 : decode cX9_init 1 = .ok (.invokespecial 3, 3) := by decide +kernel
theorem dX9_init_4 : decode cX9_init 4 = .ok (.aload_n 0, 1) := by decide +kernel
theorem dX9_init_5 : decode cX9_init 5 = .ok (.bipush 6, 2) := by decide +kernel
theorem dX9_init_7 : decode cX9_init 7 = .ok (.newarray .int, 2) := by decide +kernel
theorem dX9_init_9 : decode cX9_init 9 = .ok (.putfield 9, 3) := by decide +kernel
theorem dX9_init_12 : decode cX9_init 12 = .ok (.aload_n 0, 1) := by decide +kernel
theorem dX9_init_13 : decode cX9_init 13 = .ok (.bipush 20, 2) := by decide +kernel
theorem dX9_init_15 : decode cX9_init 15 = .ok (.newarray .int, 2) := by decide +kernel
theorem dX9_init_17 : decode cX9_init 17 = .ok (.putfield 15, 3) := by decide +kernel
theorem dX9_init_20 : decode cX9_init 20 = .ok (.aload_n 0, 1) := by decide +kernel
theorem dX9_init_21 : decode cX9_init 21 = .ok (.aload_n 1, 1) := by decide +kernel
theorem dX9_init_22 : decode cX9_init 22 = .ok (.putfield 18, 3) := by decide +kernel
theorem dX9_init_25 : decode cX9_init 25 = .ok (.return_, 1) := by decide +kernel
theorem dX9_begin_0 : decode cX9_begin 0 = .ok (.iload_n 1, 1) := by decide +kernel
theorem dX9_begin_1 : decode cX9_begin 1 = .ok (.bipush 10, 2) := by decide +kernel
theorem dX9_begin_3 : decode cX9_begin 3 = .ok (.irem, 1) := by decide +kernel
theorem dX9_begin_4 : decode cX9_begin 4 = .ok (.istore_n 2, 1) := by decide +kernel
theorem dX9_begin_5 : decode cX9_begin 5 = .ok (.aload_n 0, 1) := by decide +kernel
theorem dX9_begin_6 : decode cX9_begin 6 = .ok (.getfield 18, 3) := by decide +kernel
theorem dX9_begin_9 : decode cX9_begin 9 = .ok (.iload_n 2, 1) := by decide +kernel
theorem dX9_begin_10 : decode cX9_begin 10 = .ok (.invokevirtual 22, 3) := by decide +kernel
theorem dX9_begin_13 : decode cX9_begin 13 = .ok (.ifCond .ne 4, 3) := by decide +kernel
theorem dX9_begin_16 : decode cX9_begin 16 = .ok (.return_, 1) := by decide +kernel
theorem dX9_begin_17 : decode cX9_begin 17 = .ok (.aload_n 0, 1) := by decide +kernel
theorem dX9_begin_18 : decode cX9_begin 18 = .ok (.iload_n 1, 1) := by decide +kernel
theorem dX9_begin_19 : decode cX9_begin 19 = .ok (.putfield 28, 3) := by decide +kernel
theorem dX9_begin_22 : decode cX9_begin 22 = .ok (.aload_n 0, 1) := by decide +kernel
theorem dX9_begin_23 : decode cX9_begin 23 = .ok (.aload_n 0, 1) := by decide +kernel
theorem dX9_begin_24 : decode cX9_begin 24 = .ok (.getfield 18, 3) := by decide +kernel
theorem dX9_begin_27 : decode cX9_begin 27 = .ok (.getfield 32, 3) := by decide +kernel
theorem dX9_begin_30 : decode cX9_begin 30 = .ok (.iload_n 2, 1) := by decide +kernel
theorem dX9_begin_31 : decode cX9_begin 31 = .ok (.iaload, 1) := by decide +kernel
theorem dX9_begin_32 : decode cX9_begin 32 = .ok (.putfield 35, 3) := by decide +kernel
theorem dX9_begin_35 : decode cX9_begin 35 = .ok (.aload_n 0, 1) := by decide +kernel
theorem dX9_begin_36 : decode cX9_begin 36 = .ok (.iconst 0, 1) := by decide +kernel
theorem dX9_begin_37 : decode cX9_begin 37 = .ok (.putfield 38, 3) := by decide +kernel
theorem dX9_begin_40 : decode cX9_begin 40 = .ok (.aload_n 0, 1) := by decide +kernel
theorem dX9_begin_41 : decode cX9_begin 41 = .ok (.iconst 0, 1) := by decide +kernel
theorem dX9_begin_42 : decode cX9_begin 42 = .ok (.aload_n 0, 1) := by decide +kernel
theorem dX9_begin_43 : decode cX9_begin 43 = .ok (.getfield 18, 3) := by decide +kernel
theorem dX9_begin_46 : decode cX9_begin 46 = .ok (.getfield 41, 3) := by decide +kernel
theorem dX9_begin_49 : decode cX9_begin 49 = .ok (.iload_n 2, 1) := by decide +kernel
theorem dX9_begin_50 : decode cX9_begin 50 = .ok (.iaload, 1) := by decide +kernel
theorem dX9_begin_51 : decode cX9_begin 51 = .ok (.bipush 8, 2) := by decide +kernel
theorem dX9_begin_53 : decode cX9_begin 53 = .ok (.invokestatic 44, 3) := by decide +kernel
theorem dX9_begin_56 : decode cX9_begin 56 = .ok (.putfield 48, 3) := by decide +kernel
theorem dX9_begin_59 : decode cX9_begin 59 = .ok (.iconst 0, 1) := by decide +kernel
theorem dX9_begin_60 : decode cX9_begin 60 = .ok (.istore_n 3, 1) := by decide +kernel
theorem dX9_begin_61 : decode cX9_begin 61 = .ok (.iload_n 3, 1) := by decide +kernel
theorem dX9_begin_62 : decode cX9_begin 62 = .ok (.aload_n 0, 1) := by decide +kernel
theorem dX9_begin_63 : decode cX9_begin 63 = .ok (.getfield 48, 3) := by decide +kernel
theorem dX9_begin_66 : decode cX9_begin 66 = .ok (.if_icmp .ge 29, 3) := by decide +kernel
theorem dX9_begin_69 : decode cX9_begin 69 = .ok (.aload_n 0, 1) := by decide +kernel
theorem dX9_begin_70 : decode cX9_begin 70 = .ok (.getfield 15, 3) := by decide +kernel
theorem dX9_begin_73 : decode cX9_begin 73 = .ok (.iload_n 3, 1) := by decide +kernel
theorem dX9_begin_74 : decode cX9_begin 74 = .ok (.aload_n 0, 1) := by decide +kernel
theorem dX9_begin_75 : decode cX9_begin 75 = .ok (.getfield 18, 3) := by decide +kernel
theorem dX9_begin_78 : decode cX9_begin 78 = .ok (.getfield 51, 3) := by decide +kernel
theorem dX9_begin_81 : decode cX9_begin 81 = .ok (.iload_n 2, 1) := by decide +kernel
theorem dX9_begin_82 : decode cX9_begin 82 = .ok (.bipush 8, 2) := by decide +kernel
theorem dX9_begin_84 : decode cX9_begin 84 = .ok (.imul, 1) := by decide +kernel
theorem dX9_begin_85 : decode cX9_begin 85 = .ok (.iload_n 3, 1) := by decide +kernel
theorem dX9_begin_86 : decode cX9_begin 86 = .ok (.iadd, 1) := by decide +kernel
theorem dX9_begin_87 : decode cX9_begin 87 = .ok (.iaload, 1) := by decide +kernel
theorem dX9_begin_88 : decode cX9_begin 88 = .ok (.iastore, 1) := by decide +kernel
theorem dX9_begin_89 : decode cX9_begin 89 = .ok (.iinc 3 1, 3) := by decide +kernel
theorem dX9_begin_92 : decode cX9_begin 92 = .ok (.goto (-31), 3) := by decide +kernel
theorem dX9_begin_95 : decode cX9_begin 95 = .ok (.return_, 1) := by decide +kernel
theorem dX9_isOver_0 : decode cX9_isOver 0 = .ok (.aload_n 0, 1) := by decide +kernel
theorem dX9_isOver_1 : decode cX9_isOver 1 = .ok (.getfield 35, 3) := by decide +kernel
theorem dX9_isOver_4 : decode cX9_isOver 4 = .ok (.ifCond .le 10, 3) := by decide +kernel
theorem dX9_isOver_7 : decode cX9_isOver 7 = .ok (.aload_n 0, 1) := by decide +kernel
theorem dX9_isOver_8 : decode cX9_isOver 8 = .ok (.getfield 48, 3) := by decide +kernel
theorem dX9_isOver_11 : decode cX9_isOver 11 = .ok (.ifCond .gt 7, 3) := by decide +kernel
theorem dX9_isOver_14 : decode cX9_isOver 14 = .ok (.iconst 1, 1) := by decide +kernel
theorem dX9_isOver_15 : decode cX9_isOver 15 = .ok (.goto 4, 3) := by decide +kernel
theorem dX9_isOver_18 : decode cX9_isOver 18 = .ok (.iconst 0, 1) := by decide +kernel
theorem dX9_isOver_19 : decode cX9_isOver 19 = .ok (.ireturn, 1) := by decide +kernel
theorem dX9_say_0 : decode cX9_say 0 = .ok (.aload_n 0, 1) := by decide +kernel
theorem dX9_say_1 : decode cX9_say 1 = .ok (.getfield 38, 3) := by decide +kernel
theorem dX9_say_4 : decode cX9_say 4 = .ok (.iconst 2, 1) := by decide +kernel
theorem dX9_say_5 : decode cX9_say 5 = .ok (.irem, 1) := by decide +kernel
theorem dX9_say_6 : decode cX9_say 6 = .ok (.ifCond .ne 13, 3) := by decide +kernel
theorem dX9_say_9 : decode cX9_say 9 = .ok (.aload_n 0, 1) := by decide +kernel
theorem dX9_say_10 : decode cX9_say 10 = .ok (.getfield 28, 3) := by decide +kernel
theorem dX9_say_13 : decode cX9_say 13 = .ok (.bipush 100, 2) := by decide +kernel
theorem dX9_say_15 : decode cX9_say 15 = .ok (.idiv, 1) := by decide +kernel
theorem dX9_say_16 : decode cX9_say 16 = .ok (.goto 13, 3) := by decide +kernel
theorem dX9_say_19 : decode cX9_say 19 = .ok (.aload_n 0, 1) := by decide +kernel
theorem dX9_say_20 : decode cX9_say 20 = .ok (.getfield 28, 3) := by decide +kernel
theorem dX9_say_23 : decode cX9_say 23 = .ok (.bipush 10, 2) := by decide +kernel
theorem dX9_say_25 : decode cX9_say 25 = .ok (.idiv, 1) := by decide +kernel
theorem dX9_say_26 : decode cX9_say 26 = .ok (.bipush 10, 2) := by decide +kernel
theorem dX9_say_28 : decode cX9_say 28 = .ok (.irem, 1) := by decide +kernel
theorem dX9_say_29 : decode cX9_say 29 = .ok (.istore_n 2, 1) := by decide +kernel
theorem dX9_say_30 : decode cX9_say 30 = .ok (.aload_n 0, 1) := by decide +kernel
theorem dX9_say_31 : decode cX9_say 31 = .ok (.getfield 48, 3) := by decide +kernel
theorem dX9_say_34 : decode cX9_say 34 = .ok (.ifCond .le 33, 3) := by decide +kernel
theorem dX9_say_37 : decode cX9_say 37 = .ok (.aload_n 0, 1) := by decide +kernel
theorem dX9_say_38 : decode cX9_say 38 = .ok (.getfield 48, 3) := by decide +kernel
theorem dX9_say_41 : decode cX9_say 41 = .ok (.bipush 20, 2) := by decide +kernel
theorem dX9_say_43 : decode cX9_say 43 = .ok (.if_icmp .gt 24, 3) := by decide +kernel
theorem dX9_say_46 : decode cX9_say 46 = .ok (.aload_n 0, 1) := by decide +kernel
theorem dX9_say_47 : decode cX9_say 47 = .ok (.getfield 18, 3) := by decide +kernel
theorem dX9_say_50 : decode cX9_say 50 = .ok (.iload_n 2, 1) := by decide +kernel
theorem dX9_say_51 : decode cX9_say 51 = .ok (.invokevirtual 53, 3) := by decide +kernel
theorem dX9_say_54 : decode cX9_say 54 = .ok (.ifCond .eq 13, 3) := by decide +kernel
theorem dX9_say_57 : decode cX9_say 57 = .ok (.iconst 2, 1) := by decide +kernel
theorem dX9_say_58 : decode cX9_say 58 = .ok (.iload_n 2, 1) := by decide +kernel
theorem dX9_say_59 : decode cX9_say 59 = .ok (.imul, 1) := by decide +kernel
theorem dX9_say_60 : decode cX9_say 60 = .ok (.iconst 1, 1) := by decide +kernel
theorem dX9_say_61 : decode cX9_say 61 = .ok (.iadd, 1) := by decide +kernel
theorem dX9_say_62 : decode cX9_say 62 = .ok (.aload_n 1, 1) := by decide +kernel
theorem dX9_say_63 : decode cX9_say 63 = .ok (.arraylength, 1) := by decide +kernel
theorem dX9_say_64 : decode cX9_say 64 = .ok (.if_icmp .lt 4, 3) := by decide +kernel
theorem dX9_say_67 : decode cX9_say 67 = .ok (.return_, 1) := by decide +kernel
theorem dX9_say_68 : decode cX9_say 68 = .ok (.aload_n 0, 1) := by decide +kernel
theorem dX9_say_69 : decode cX9_say 69 = .ok (.dup, 1) := by decide +kernel
theorem dX9_say_70 : decode cX9_say 70 = .ok (.getfield 48, 3) := by decide +kernel
theorem dX9_say_73 : decode cX9_say 73 = .ok (.iconst 1, 1) := by decide +kernel
theorem dX9_say_74 : decode cX9_say 74 = .ok (.isub, 1) := by decide +kernel
theorem dX9_say_75 : decode cX9_say 75 = .ok (.putfield 48, 3) := by decide +kernel
theorem dX9_say_78 : decode cX9_say 78 = .ok (.aload_n 0, 1) := by decide +kernel
theorem dX9_say_79 : decode cX9_say 79 = .ok (.dup, 1) := by decide +kernel
theorem dX9_say_80 : decode cX9_say 80 = .ok (.getfield 38, 3) := by decide +kernel
theorem dX9_say_83 : decode cX9_say 83 = .ok (.iconst 1, 1) := by decide +kernel
theorem dX9_say_84 : decode cX9_say 84 = .ok (.iadd, 1) := by decide +kernel
theorem dX9_say_85 : decode cX9_say 85 = .ok (.putfield 38, 3) := by decide +kernel
theorem dX9_say_88 : decode cX9_say 88 = .ok (.aload_n 0, 1) := by decide +kernel
theorem dX9_say_89 : decode cX9_say 89 = .ok (.getfield 9, 3) := by decide +kernel
theorem dX9_say_92 : decode cX9_say 92 = .ok (.iconst 0, 1) := by decide +kernel
theorem dX9_say_93 : decode cX9_say 93 = .ok (.aload_n 0, 1) := by decide +kernel
theorem dX9_say_94 : decode cX9_say 94 = .ok (.getfield 35, 3) := by decide +kernel
theorem dX9_say_97 : decode cX9_say 97 = .ok (.iastore, 1) := by decide +kernel
theorem dX9_say_98 : decode cX9_say 98 = .ok (.aload_n 0, 1) := by decide +kernel
theorem dX9_say_99 : decode cX9_say 99 = .ok (.getfield 9, 3) := by decide +kernel
theorem dX9_say_102 : decode cX9_say 102 = .ok (.iconst 1, 1) := by decide +kernel
theorem dX9_say_103 : decode cX9_say 103 = .ok (.aload_n 0, 1) := by decide +kernel
theorem dX9_say_104 : decode cX9_say 104 = .ok (.getfield 15, 3) := by decide +kernel
theorem dX9_say_107 : decode cX9_say 107 = .ok (.aload_n 0, 1) := by decide +kernel
theorem dX9_say_108 : decode cX9_say 108 = .ok (.getfield 48, 3) := by decide +kernel
theorem dX9_say_111 : decode cX9_say 111 = .ok (.iaload, 1) := by decide +kernel
theorem dX9_say_112 : decode cX9_say 112 = .ok (.iastore, 1) := by decide +kernel
theorem dX9_say_113 : decode cX9_say 113 = .ok (.aload_n 0, 1) := by decide +kernel
theorem dX9_say_114 : decode cX9_say 114 = .ok (.getfield 9, 3) := by decide +kernel
theorem dX9_say_117 : decode cX9_say 117 = .ok (.iconst 2, 1) := by decide +kernel
theorem dX9_say_118 : decode cX9_say 118 = .ok (.aload_n 1, 1) := by decide +kernel
theorem dX9_say_119 : decode cX9_say 119 = .ok (.iconst 2, 1) := by decide +kernel
theorem dX9_say_120 : decode cX9_say 120 = .ok (.iload_n 2, 1) := by decide +kernel
theorem dX9_say_121 : decode cX9_say 121 = .ok (.imul, 1) := by decide +kernel
theorem dX9_say_122 : decode cX9_say 122 = .ok (.iaload, 1) := by decide +kernel
theorem dX9_say_123 : decode cX9_say 123 = .ok (.iastore, 1) := by decide +kernel
theorem dX9_say_124 : decode cX9_say 124 = .ok (.aload_n 0, 1) := by decide +kernel
theorem dX9_say_125 : decode cX9_say 125 = .ok (.getfield 9, 3) := by decide +kernel
theorem dX9_say_128 : decode cX9_say 128 = .ok (.iconst 3, 1) := by decide +kernel
theorem dX9_say_129 : decode cX9_say 129 = .ok (.aload_n 1, 1) := by decide +kernel
theorem dX9_say_130 : decode cX9_say 130 = .ok (.iconst 2, 1) := by decide +kernel
theorem dX9_say_131 : decode cX9_say 131 = .ok (.iload_n 2, 1) := by decide +kernel
theorem dX9_say_132 : decode cX9_say 132 = .ok (.imul, 1) := by decide +kernel
theorem dX9_say_133 : decode cX9_say 133 = .ok (.iconst 1, 1) := by decide +kernel
theorem dX9_say_134 : decode cX9_say 134 = .ok (.iadd, 1) := by decide +kernel
theorem dX9_say_135 : decode cX9_say 135 = .ok (.iaload, 1) := by decide +kernel
theorem dX9_say_136 : decode cX9_say 136 = .ok (.iastore, 1) := by decide +kernel
theorem dX9_say_137 : decode cX9_say 137 = .ok (.aload_n 0, 1) := by decide +kernel
theorem dX9_say_138 : decode cX9_say 138 = .ok (.getfield 9, 3) := by decide +kernel
theorem dX9_say_141 : decode cX9_say 141 = .ok (.iconst 4, 1) := by decide +kernel
theorem dX9_say_142 : decode cX9_say 142 = .ok (.aload_n 0, 1) := by decide +kernel
theorem dX9_say_143 : decode cX9_say 143 = .ok (.getfield 38, 3) := by decide +kernel
theorem dX9_say_146 : decode cX9_say 146 = .ok (.iastore, 1) := by decide +kernel
theorem dX9_say_147 : decode cX9_say 147 = .ok (.aload_n 0, 1) := by decide +kernel
theorem dX9_say_148 : decode cX9_say 148 = .ok (.getfield 9, 3) := by decide +kernel
theorem dX9_say_151 : decode cX9_say 151 = .ok (.iconst 5, 1) := by decide +kernel
theorem dX9_say_152 : decode cX9_say 152 = .ok (.aload_n 0, 1) := by decide +kernel
theorem dX9_say_153 : decode cX9_say 153 = .ok (.getfield 48, 3) := by decide +kernel
theorem dX9_say_156 : decode cX9_say 156 = .ok (.iastore, 1) := by decide +kernel
theorem dX9_say_157 : decode cX9_say 157 = .ok (.aload_n 0, 1) := by decide +kernel
theorem dX9_say_158 : decode cX9_say 158 = .ok (.getfield 18, 3) := by decide +kernel
theorem dX9_say_161 : decode cX9_say 161 = .ok (.getfield 56, 3) := by decide +kernel
theorem dX9_say_164 : decode cX9_say 164 = .ok (.aload_n 0, 1) := by decide +kernel
theorem dX9_say_165 : decode cX9_say 165 = .ok (.getfield 9, 3) := by decide +kernel
theorem dX9_say_168 : decode cX9_say 168 = .ok (.aload_n 0, 1) := by decide +kernel
theorem dX9_say_169 : decode cX9_say 169 = .ok (.getfield 35, 3) := by decide +kernel
theorem dX9_say_172 : decode cX9_say 172 = .ok (.iconst 1, 1) := by decide +kernel
theorem dX9_say_173 : decode cX9_say 173 = .ok (.isub, 1) := by decide +kernel
theorem dX9_say_174 : decode cX9_say 174 = .ok (.invokevirtual 60, 3) := by decide +kernel
theorem dX9_say_177 : decode cX9_say 177 = .ok (.istore_n 3, 1) := by decide +kernel
theorem dX9_say_178 : decode cX9_say 178 = .ok (.aload_n 0, 1) := by decide +kernel
theorem dX9_say_179 : decode cX9_say 179 = .ok (.getfield 18, 3) := by decide +kernel
theorem dX9_say_182 : decode cX9_say 182 = .ok (.getfield 66, 3) := by decide +kernel
theorem dX9_say_185 : decode cX9_say 185 = .ok (.aload_n 0, 1) := by decide +kernel
theorem dX9_say_186 : decode cX9_say 186 = .ok (.getfield 9, 3) := by decide +kernel
theorem dX9_say_189 : decode cX9_say 189 = .ok (.iconst 0, 1) := by decide +kernel
theorem dX9_say_190 : decode cX9_say 190 = .ok (.invokevirtual 60, 3) := by decide +kernel
theorem dX9_say_193 : decode cX9_say 193 = .ok (.istore 4, 2) := by decide +kernel
theorem dX9_say_195 : decode cX9_say 195 = .ok (.aload_n 0, 1) := by decide +kernel
theorem dX9_say_196 : decode cX9_say 196 = .ok (.iconst 0, 1) := by decide +kernel
theorem dX9_say_197 : decode cX9_say 197 = .ok (.iload_n 3, 1) := by decide +kernel
theorem dX9_say_198 : decode cX9_say 198 = .ok (.bipush 99, 2) := by decide +kernel
theorem dX9_say_200 : decode cX9_say 200 = .ok (.invokestatic 44, 3) := by decide +kernel
theorem dX9_say_203 : decode cX9_say 203 = .ok (.putfield 35, 3) := by decide +kernel
theorem dX9_say_206 : decode cX9_say 206 = .ok (.iload 4, 2) := by decide +kernel
theorem dX9_say_208 : decode cX9_say 208 = .ok (.ifCond .le 29, 3) := by decide +kernel
theorem dX9_say_211 : decode cX9_say 211 = .ok (.aload_n 0, 1) := by decide +kernel
theorem dX9_say_212 : decode cX9_say 212 = .ok (.getfield 15, 3) := by decide +kernel
theorem dX9_say_215 : decode cX9_say 215 = .ok (.aload_n 0, 1) := by decide +kernel
theorem dX9_say_216 : decode cX9_say 216 = .ok (.getfield 48, 3) := by decide +kernel
theorem dX9_say_219 : decode cX9_say 219 = .ok (.iload 4, 2) := by decide +kernel
theorem dX9_say_221 : decode cX9_say 221 = .ok (.bipush 9, 2) := by decide +kernel
theorem dX9_say_223 : decode cX9_say 223 = .ok (.invokestatic 69, 3) := by decide +kernel
theorem dX9_say_226 : decode cX9_say 226 = .ok (.iastore, 1) := by decide +kernel
theorem dX9_say_227 : decode cX9_say 227 = .ok (.aload_n 0, 1) := by decide +kernel
theorem dX9_say_228 : decode cX9_say 228 = .ok (.dup, 1) := by decide +kernel
theorem dX9_say_229 : decode cX9_say 229 = .ok (.getfield 48, 3) := by decide +kernel
theorem dX9_say_232 : decode cX9_say 232 = .ok (.iconst 1, 1) := by decide +kernel
theorem dX9_say_233 : decode cX9_say 233 = .ok (.iadd, 1) := by decide +kernel
theorem dX9_say_234 : decode cX9_say 234 = .ok (.putfield 48, 3) := by decide +kernel
theorem dX9_say_237 : decode cX9_say 237 = .ok (.return_, 1) := by decide +kernel
theorem dX9_sayOnWay_0 : decode cX9_sayOnWay 0 = .ok (.aload_n 0, 1) := by decide +kernel
theorem dX9_sayOnWay_1 : decode cX9_sayOnWay 1 = .ok (.aload_n 1, 1) := by decide +kernel
theorem dX9_sayOnWay_2 : decode cX9_sayOnWay 2 = .ok (.invokevirtual 75, 3) := by decide +kernel
theorem dX9_sayOnWay_5 : decode cX9_sayOnWay 5 = .ok (.aload_n 0, 1) := by decide +kernel
theorem dX9_sayOnWay_6 : decode cX9_sayOnWay 6 = .ok (.getfield 18, 3) := by decide +kernel
theorem dX9_sayOnWay_9 : decode cX9_sayOnWay 9 = .ok (.iload_n 2, 1) := by decide +kernel
theorem dX9_sayOnWay_10 : decode cX9_sayOnWay 10 = .ok (.invokevirtual 79, 3) := by decide +kernel
theorem dX9_sayOnWay_13 : decode cX9_sayOnWay 13 = .ok (.ifCond .eq 15, 3) := by decide +kernel
theorem dX9_sayOnWay_16 : decode cX9_sayOnWay 16 = .ok (.aload_n 0, 1) := by decide +kernel
theorem dX9_sayOnWay_17 : decode cX9_sayOnWay 17 = .ok (.getfield 18, 3) := by decide +kernel
theorem dX9_sayOnWay_20 : decode cX9_sayOnWay 20 = .ok (.iload 4, 2) := by decide +kernel
theorem dX9_sayOnWay_22 : decode cX9_sayOnWay 22 = .ok (.invokevirtual 82, 3) := by decide +kernel
theorem dX9_sayOnWay_25 : decode cX9_sayOnWay 25 = .ok (.ifCond .ne 4, 3) := by decide +kernel
theorem dX9_sayOnWay_28 : decode cX9_sayOnWay 28 = .ok (.return_, 1) := by decide +kernel
theorem dX9_sayOnWay_29 : decode cX9_sayOnWay 29 = .ok (.aload_n 0, 1) := by decide +kernel
theorem dX9_sayOnWay_30 : decode cX9_sayOnWay 30 = .ok (.iconst 0, 1) := by decide +kernel
theorem dX9_sayOnWay_31 : decode cX9_sayOnWay 31 = .ok (.aload_n 0, 1) := by decide +kernel
theorem dX9_sayOnWay_32 : decode cX9_sayOnWay 32 = .ok (.getfield 35, 3) := by decide +kernel
theorem dX9_sayOnWay_35 : decode cX9_sayOnWay 35 = .ok (.aload_n 0, 1) := by decide +kernel
theorem dX9_sayOnWay_36 : decode cX9_sayOnWay 36 = .ok (.getfield 18, 3) := by decide +kernel
theorem dX9_sayOnWay_39 : decode cX9_sayOnWay 39 = .ok (.getfield 85, 3) := by decide +kernel
theorem dX9_sayOnWay_42 : decode cX9_sayOnWay 42 = .ok (.iload_n 2, 1) := by decide +kernel
theorem dX9_sayOnWay_43 : decode cX9_sayOnWay 43 = .ok (.iaload, 1) := by decide +kernel
theorem dX9_sayOnWay_44 : decode cX9_sayOnWay 44 = .ok (.iadd, 1) := by decide +kernel
theorem dX9_sayOnWay_45 : decode cX9_sayOnWay 45 = .ok (.bipush 99, 2) := by decide +kernel
theorem dX9_sayOnWay_47 : decode cX9_sayOnWay 47 = .ok (.invokestatic 44, 3) := by decide +kernel
theorem dX9_sayOnWay_50 : decode cX9_sayOnWay 50 = .ok (.putfield 35, 3) := by decide +kernel
theorem dX9_sayOnWay_53 : decode cX9_sayOnWay 53 = .ok (.iload_n 3, 1) := by decide +kernel
theorem dX9_sayOnWay_54 : decode cX9_sayOnWay 54 = .ok (.aload_n 0, 1) := by decide +kernel
theorem dX9_sayOnWay_55 : decode cX9_sayOnWay 55 = .ok (.getfield 18, 3) := by decide +kernel
theorem dX9_sayOnWay_58 : decode cX9_sayOnWay 58 = .ok (.getfield 88, 3) := by decide +kernel
theorem dX9_sayOnWay_61 : decode cX9_sayOnWay 61 = .ok (.iload_n 2, 1) := by decide +kernel
theorem dX9_sayOnWay_62 : decode cX9_sayOnWay 62 = .ok (.iaload, 1) := by decide +kernel
theorem dX9_sayOnWay_63 : decode cX9_sayOnWay 63 = .ok (.if_icmp .ge 4, 3) := by decide +kernel
theorem dX9_sayOnWay_66 : decode cX9_sayOnWay 66 = .ok (.return_, 1) := by decide +kernel
theorem dX9_sayOnWay_67 : decode cX9_sayOnWay 67 = .ok (.aload_n 0, 1) := by decide +kernel
theorem dX9_sayOnWay_68 : decode cX9_sayOnWay 68 = .ok (.iconst 0, 1) := by decide +kernel
theorem dX9_sayOnWay_69 : decode cX9_sayOnWay 69 = .ok (.aload_n 0, 1) := by decide +kernel
theorem dX9_sayOnWay_70 : decode cX9_sayOnWay 70 = .ok (.getfield 35, 3) := by decide +kernel
theorem dX9_sayOnWay_73 : decode cX9_sayOnWay 73 = .ok (.aload_n 0, 1) := by decide +kernel
theorem dX9_sayOnWay_74 : decode cX9_sayOnWay 74 = .ok (.getfield 18, 3) := by decide +kernel
theorem dX9_sayOnWay_77 : decode cX9_sayOnWay 77 = .ok (.getfield 91, 3) := by decide +kernel
theorem dX9_sayOnWay_80 : decode cX9_sayOnWay 80 = .ok (.iload 4, 2) := by decide +kernel
theorem dX9_sayOnWay_82 : decode cX9_sayOnWay 82 = .ok (.iaload, 1) := by decide +kernel
theorem dX9_sayOnWay_83 : decode cX9_sayOnWay 83 = .ok (.isub, 1) := by decide +kernel
theorem dX9_sayOnWay_84 : decode cX9_sayOnWay 84 = .ok (.invokestatic 94, 3) := by decide +kernel
theorem dX9_sayOnWay_87 : decode cX9_sayOnWay 87 = .ok (.putfield 35, 3) := by decide +kernel
theorem dX9_sayOnWay_90 : decode cX9_sayOnWay 90 = .ok (.aload_n 0, 1) := by decide +kernel
theorem dX9_sayOnWay_91 : decode cX9_sayOnWay 91 = .ok (.getfield 18, 3) := by decide +kernel
theorem dX9_sayOnWay_94 : decode cX9_sayOnWay 94 = .ok (.getfield 97, 3) := by decide +kernel
theorem dX9_sayOnWay_97 : decode cX9_sayOnWay 97 = .ok (.iload 4, 2) := by decide +kernel
theorem dX9_sayOnWay_99 : decode cX9_sayOnWay 99 = .ok (.iaload, 1) := by decide +kernel
theorem dX9_sayOnWay_100 : decode cX9_sayOnWay 100 = .ok (.ifCond .le 48, 3) := by decide +kernel
theorem dX9_sayOnWay_103 : decode cX9_sayOnWay 103 = .ok (.aload_n 0, 1) := by decide +kernel
theorem dX9_sayOnWay_104 : decode cX9_sayOnWay 104 = .ok (.getfield 48, 3) := by decide +kernel
theorem dX9_sayOnWay_107 : decode cX9_sayOnWay 107 = .ok (.ifCond .lt 41, 3) := by decide +kernel
theorem dX9_sayOnWay_110 : decode cX9_sayOnWay 110 = .ok (.aload_n 0, 1) := by decide +kernel
theorem dX9_sayOnWay_111 : decode cX9_sayOnWay 111 = .ok (.getfield 48, 3) := by decide +kernel
theorem dX9_sayOnWay_114 : decode cX9_sayOnWay 114 = .ok (.bipush 20, 2) := by decide +kernel
theorem dX9_sayOnWay_116 : decode cX9_sayOnWay 116 = .ok (.if_icmp .ge 32, 3) := by decide +kernel
theorem dX9_sayOnWay_119 : decode cX9_sayOnWay 119 = .ok (.aload_n 0, 1) := by decide +kernel
theorem dX9_sayOnWay_120 : decode cX9_sayOnWay 120 = .ok (.getfield 15, 3) := by decide +kernel
theorem dX9_sayOnWay_123 : decode cX9_sayOnWay 123 = .ok (.aload_n 0, 1) := by decide +kernel
theorem dX9_sayOnWay_124 : decode cX9_sayOnWay 124 = .ok (.getfield 48, 3) := by decide +kernel
theorem dX9_sayOnWay_127 : decode cX9_sayOnWay 127 = .ok (.aload_n 0, 1) := by decide +kernel
theorem dX9_sayOnWay_128 : decode cX9_sayOnWay 128 = .ok (.getfield 18, 3) := by decide +kernel
theorem dX9_sayOnWay_131 : decode cX9_sayOnWay 131 = .ok (.getfield 97, 3) := by decide +kernel
theorem dX9_sayOnWay_134 : decode cX9_sayOnWay 134 = .ok (.iload 4, 2) := by decide +kernel
theorem dX9_sayOnWay_136 : decode cX9_sayOnWay 136 = .ok (.iaload, 1) := by decide +kernel
theorem dX9_sayOnWay_137 : decode cX9_sayOnWay 137 = .ok (.iastore, 1) := by decide +kernel
theorem dX9_sayOnWay_138 : decode cX9_sayOnWay 138 = .ok (.aload_n 0, 1) := by decide +kernel
theorem dX9_sayOnWay_139 : decode cX9_sayOnWay 139 = .ok (.dup, 1) := by decide +kernel
theorem dX9_sayOnWay_140 : decode cX9_sayOnWay 140 = .ok (.getfield 48, 3) := by decide +kernel
theorem dX9_sayOnWay_143 : decode cX9_sayOnWay 143 = .ok (.iconst 1, 1) := by decide +kernel
theorem dX9_sayOnWay_144 : decode cX9_sayOnWay 144 = .ok (.iadd, 1) := by decide +kernel
theorem dX9_sayOnWay_145 : decode cX9_sayOnWay 145 = .ok (.putfield 48, 3) := by decide +kernel
theorem dX9_sayOnWay_148 : decode cX9_sayOnWay 148 = .ok (.return_, 1) := by decide +kernel
theorem dX9_talkOpenly_0 : decode cX9_talkOpenly 0 = .ok (.iconst 0, 1) := by decide +kernel
theorem dX9_talkOpenly_1 : decode cX9_talkOpenly 1 = .ok (.istore_n 3, 1) := by decide +kernel
theorem dX9_talkOpenly_2 : decode cX9_talkOpenly 2 = .ok (.iload_n 3, 1) := by decide +kernel
theorem dX9_talkOpenly_3 : decode cX9_talkOpenly 3 = .ok (.iload_n 2, 1) := by decide +kernel
theorem dX9_talkOpenly_4 : decode cX9_talkOpenly 4 = .ok (.if_icmp .ge 21, 3) := by decide +kernel
theorem dX9_talkOpenly_7 : decode cX9_talkOpenly 7 = .ok (.aload_n 0, 1) := by decide +kernel
theorem dX9_talkOpenly_8 : decode cX9_talkOpenly 8 = .ok (.invokevirtual 100, 3) := by decide +kernel
theorem dX9_talkOpenly_11 : decode cX9_talkOpenly 11 = .ok (.ifCond .ne 14, 3) := by decide +kernel
theorem dX9_talkOpenly_14 : decode cX9_talkOpenly 14 = .ok (.aload_n 0, 1) := by decide +kernel
theorem dX9_talkOpenly_15 : decode cX9_talkOpenly 15 = .ok (.aload_n 1, 1) := by decide +kernel
theorem dX9_talkOpenly_16 : decode cX9_talkOpenly 16 = .ok (.invokevirtual 75, 3) := by decide +kernel
theorem dX9_talkOpenly_19 : decode cX9_talkOpenly 19 = .ok (.iinc 3 1, 3) := by decide +kernel
theorem dX9_talkOpenly_22 : decode cX9_talkOpenly 22 = .ok (.goto (-20), 3) := by decide +kernel
theorem dX9_talkOpenly_25 : decode cX9_talkOpenly 25 = .ok (.aload_n 0, 1) := by decide +kernel
theorem dX9_talkOpenly_26 : decode cX9_talkOpenly 26 = .ok (.invokevirtual 100, 3) := by decide +kernel
theorem dX9_talkOpenly_29 : decode cX9_talkOpenly 29 = .ok (.ifCond .eq 10, 3) := by decide +kernel
theorem dX9_talkOpenly_32 : decode cX9_talkOpenly 32 = .ok (.aload_n 0, 1) := by decide +kernel
theorem dX9_talkOpenly_33 : decode cX9_talkOpenly 33 = .ok (.getfield 38, 3) := by decide +kernel
theorem dX9_talkOpenly_36 : decode cX9_talkOpenly 36 = .ok (.goto 4, 3) := by decide +kernel
theorem dX9_talkOpenly_39 : decode cX9_talkOpenly 39 = .ok (.iconst (-1), 1) := by decide +kernel
theorem dX9_talkOpenly_40 : decode cX9_talkOpenly 40 = .ok (.ireturn, 1) := by decide +kernel
theorem dX9_put_0 : decode cX9_put 0 = .ok (.iload_n 2, 1) := by decide +kernel
theorem dX9_put_1 : decode cX9_put 1 = .ok (.ifCond .lt 12, 3) := by decide +kernel
theorem dX9_put_4 : decode cX9_put 4 = .ok (.iload_n 2, 1) := by decide +kernel
theorem dX9_put_5 : decode cX9_put 5 = .ok (.aload_n 1, 1) := by decide +kernel
theorem dX9_put_6 : decode cX9_put 6 = .ok (.arraylength, 1) := by decide +kernel
theorem dX9_put_7 : decode cX9_put 7 = .ok (.bipush 24, 2) := by decide +kernel
theorem dX9_put_9 : decode cX9_put 9 = .ok (.isub, 1) := by decide +kernel
theorem dX9_put_10 : decode cX9_put 10 = .ok (.if_icmp .le 4, 3) := by decide +kernel
theorem dX9_put_13 : decode cX9_put 13 = .ok (.return_, 1) := by decide +kernel
theorem dX9_put_14 : decode cX9_put 14 = .ok (.aload_n 1, 1) := by decide +kernel
theorem dX9_put_15 : decode cX9_put 15 = .ok (.iload_n 2, 1) := by decide +kernel
theorem dX9_put_16 : decode cX9_put 16 = .ok (.aload_n 0, 1) := by decide +kernel
theorem dX9_put_17 : decode cX9_put 17 = .ok (.getfield 28, 3) := by decide +kernel
theorem dX9_put_20 : decode cX9_put 20 = .ok (.iastore, 1) := by decide +kernel
theorem dX9_put_21 : decode cX9_put 21 = .ok (.aload_n 1, 1) := by decide +kernel
theorem dX9_put_22 : decode cX9_put 22 = .ok (.iload_n 2, 1) := by decide +kernel
theorem dX9_put_23 : decode cX9_put 23 = .ok (.iconst 1, 1) := by decide +kernel
theorem dX9_put_24 : decode cX9_put 24 = .ok (.iadd, 1) := by decide +kernel
theorem dX9_put_25 : decode cX9_put 25 = .ok (.aload_n 0, 1) := by decide +kernel
theorem dX9_put_26 : decode cX9_put 26 = .ok (.getfield 35, 3) := by decide +kernel
theorem dX9_put_29 : decode cX9_put 29 = .ok (.iastore, 1) := by decide +kernel
theorem dX9_put_30 : decode cX9_put 30 = .ok (.aload_n 1, 1) := by decide +kernel
theorem dX9_put_31 : decode cX9_put 31 = .ok (.iload_n 2, 1) := by decide +kernel
theorem dX9_put_32 : decode cX9_put 32 = .ok (.iconst 2, 1) := by decide +kernel
theorem dX9_put_33 : decode cX9_put 33 = .ok (.iadd, 1) := by decide +kernel
theorem dX9_put_34 : decode cX9_put 34 = .ok (.aload_n 0, 1) := by decide +kernel
theorem dX9_put_35 : decode cX9_put 35 = .ok (.getfield 38, 3) := by decide +kernel
theorem dX9_put_38 : decode cX9_put 38 = .ok (.iastore, 1) := by decide +kernel
theorem dX9_put_39 : decode cX9_put 39 = .ok (.aload_n 1, 1) := by decide +kernel
theorem dX9_put_40 : decode cX9_put 40 = .ok (.iload_n 2, 1) := by decide +kernel
theorem dX9_put_41 : decode cX9_put 41 = .ok (.iconst 3, 1) := by decide +kernel
theorem dX9_put_42 : decode cX9_put 42 = .ok (.iadd, 1) := by decide +kernel
theorem dX9_put_43 : decode cX9_put 43 = .ok (.aload_n 0, 1) := by decide +kernel
theorem dX9_put_44 : decode cX9_put 44 = .ok (.getfield 48, 3) := by decide +kernel
theorem dX9_put_47 : decode cX9_put 47 = .ok (.iastore, 1) := by decide +kernel
theorem dX9_put_48 : decode cX9_put 48 = .ok (.iconst 0, 1) := by decide +kernel
theorem dX9_put_49 : decode cX9_put 49 = .ok (.istore_n 3, 1) := by decide +kernel
theorem dX9_put_50 : decode cX9_put 50 = .ok (.iload_n 3, 1) := by decide +kernel
theorem dX9_put_51 : decode cX9_put 51 = .ok (.bipush 20, 2) := by decide +kernel
theorem dX9_put_53 : decode cX9_put 53 = .ok (.if_icmp .ge 22, 3) := by decide +kernel
theorem dX9_put_56 : decode cX9_put 56 = .ok (.aload_n 1, 1) := by decide +kernel
theorem dX9_put_57 : decode cX9_put 57 = .ok (.iload_n 2, 1) := by decide +kernel
theorem dX9_put_58 : decode cX9_put 58 = .ok (.iconst 4, 1) := by decide +kernel
theorem dX9_put_59 : decode cX9_put 59 = .ok (.iadd, 1) := by decide +kernel
theorem dX9_put_60 : decode cX9_put 60 = .ok (.iload_n 3, 1) := by decide +kernel
theorem dX9_put_61 : decode cX9_put 61 = .ok (.iadd, 1) := by decide +kernel
theorem dX9_put_62 : decode cX9_put 62 = .ok (.aload_n 0, 1) := by decide +kernel
theorem dX9_put_63 : decode cX9_put 63 = .ok (.getfield 15, 3) := by decide +kernel
theorem dX9_put_66 : decode cX9_put 66 = .ok (.iload_n 3, 1) := by decide +kernel
theorem dX9_put_67 : decode cX9_put 67 = .ok (.iaload, 1) := by decide +kernel
theorem dX9_put_68 : decode cX9_put 68 = .ok (.iastore, 1) := by decide +kernel
theorem dX9_put_69 : decode cX9_put 69 = .ok (.iinc 3 1, 3) := by decide +kernel
theorem dX9_put_72 : decode cX9_put 72 = .ok (.goto (-22), 3) := by decide +kernel
theorem dX9_put_75 : decode cX9_put 75 = .ok (.return_, 1) := by decide +kernel
theorem dX9_bring_0 : decode cX9_bring 0 = .ok (.iload_n 2, 1) := by decide +kernel
theorem dX9_bring_1 : decode cX9_bring 1 = .ok (.ifCond .lt 12, 3) := by decide +kernel
theorem dX9_bring_4 : decode cX9_bring 4 = .ok (.iload_n 2, 1) := by decide +kernel
theorem dX9_bring_5 : decode cX9_bring 5 = .ok (.aload_n 1, 1) := by decide +kernel
theorem dX9_bring_6 : decode cX9_bring 6 = .ok (.arraylength, 1) := by decide +kernel
theorem dX9_bring_7 : decode cX9_bring 7 = .ok (.bipush 24, 2) := by decide +kernel
theorem dX9_bring_9 : decode cX9_bring 9 = .ok (.isub, 1) := by decide +kernel
theorem dX9_bring_10 : decode cX9_bring 10 = .ok (.if_icmp .le 4, 3) := by decide +kernel
theorem dX9_bring_13 : decode cX9_bring 13 = .ok (.return_, 1) := by decide +kernel
theorem dX9_bring_14 : decode cX9_bring 14 = .ok (.aload_n 0, 1) := by decide +kernel
theorem dX9_bring_15 : decode cX9_bring 15 = .ok (.aload_n 1, 1) := by decide +kernel
theorem dX9_bring_16 : decode cX9_bring 16 = .ok (.iload_n 2, 1) := by decide +kernel
theorem dX9_bring_17 : decode cX9_bring 17 = .ok (.iaload, 1) := by decide +kernel
theorem dX9_bring_18 : decode cX9_bring 18 = .ok (.putfield 28, 3) := by decide +kernel
theorem dX9_bring_21 : decode cX9_bring 21 = .ok (.aload_n 0, 1) := by decide +kernel
theorem dX9_bring_22 : decode cX9_bring 22 = .ok (.aload_n 1, 1) := by decide +kernel
theorem dX9_bring_23 : decode cX9_bring 23 = .ok (.iload_n 2, 1) := by decide +kernel
theorem dX9_bring_24 : decode cX9_bring 24 = .ok (.iconst 1, 1) := by decide +kernel
theorem dX9_bring_25 : decode cX9_bring 25 = .ok (.iadd, 1) := by decide +kernel
theorem dX9_bring_26 : decode cX9_bring 26 = .ok (.iaload, 1) := by decide +kernel
theorem dX9_bring_27 : decode cX9_bring 27 = .ok (.putfield 35, 3) := by decide +kernel
theorem dX9_bring_30 : decode cX9_bring 30 = .ok (.aload_n 0, 1) := by decide +kernel
theorem dX9_bring_31 : decode cX9_bring 31 = .ok (.aload_n 1, 1) := by decide +kernel
theorem dX9_bring_32 : decode cX9_bring 32 = .ok (.iload_n 2, 1) := by decide +kernel
theorem dX9_bring_33 : decode cX9_bring 33 = .ok (.iconst 2, 1) := by decide +kernel
theorem dX9_bring_34 : decode cX9_bring 34 = .ok (.iadd, 1) := by decide +kernel
theorem dX9_bring_35 : decode cX9_bring 35 = .ok (.iaload, 1) := by decide +kernel
theorem dX9_bring_36 : decode cX9_bring 36 = .ok (.putfield 38, 3) := by decide +kernel
theorem dX9_bring_39 : decode cX9_bring 39 = .ok (.aload_n 0, 1) := by decide +kernel
theorem dX9_bring_40 : decode cX9_bring 40 = .ok (.aload_n 1, 1) := by decide +kernel
theorem dX9_bring_41 : decode cX9_bring 41 = .ok (.iload_n 2, 1) := by decide +kernel
theorem dX9_bring_42 : decode cX9_bring 42 = .ok (.iconst 3, 1) := by decide +kernel
theorem dX9_bring_43 : decode cX9_bring 43 = .ok (.iadd, 1) := by decide +kernel
theorem dX9_bring_44 : decode cX9_bring 44 = .ok (.iaload, 1) := by decide +kernel
theorem dX9_bring_45 : decode cX9_bring 45 = .ok (.putfield 48, 3) := by decide +kernel
theorem dX9_bring_48 : decode cX9_bring 48 = .ok (.iconst 0, 1) := by decide +kernel
theorem dX9_bring_49 : decode cX9_bring 49 = .ok (.istore_n 3, 1) := by decide +kernel
theorem dX9_bring_50 : decode cX9_bring 50 = .ok (.iload_n 3, 1) := by decide +kernel
theorem dX9_bring_51 : decode cX9_bring 51 = .ok (.bipush 20, 2) := by decide +kernel
theorem dX9_bring_53 : decode cX9_bring 53 = .ok (.if_icmp .ge 22, 3) := by decide +kernel
theorem dX9_bring_56 : decode cX9_bring 56 = .ok (.aload_n 0, 1) := by decide +kernel
theorem dX9_bring_57 : decode cX9_bring 57 = .ok (.getfield 15, 3) := by decide +kernel
theorem dX9_bring_60 : decode cX9_bring 60 = .ok (.iload_n 3, 1) := by decide +kernel
theorem dX9_bring_61 : decode cX9_bring 61 = .ok (.aload_n 1, 1) := by decide +kernel
theorem dX9_bring_62 : decode cX9_bring 62 = .ok (.iload_n 2, 1) := by decide +kernel
theorem dX9_bring_63 : decode cX9_bring 63 = .ok (.iconst 4, 1) := by decide +kernel
theorem dX9_bring_64 : decode cX9_bring 64 = .ok (.iadd, 1) := by decide +kernel
theorem dX9_bring_65 : decode cX9_bring 65 = .ok (.iload_n 3, 1) := by decide +kernel
theorem dX9_bring_66 : decode cX9_bring 66 = .ok (.iadd, 1) := by decide +kernel
theorem dX9_bring_67 : decode cX9_bring 67 = .ok (.iaload, 1) := by decide +kernel
theorem dX9_bring_68 : decode cX9_bring 68 = .ok (.iastore, 1) := by decide +kernel
theorem dX9_bring_69 : decode cX9_bring 69 = .ok (.iinc 3 1, 3) := by decide +kernel
theorem dX9_bring_72 : decode cX9_bring 72 = .ok (.goto (-22), 3) := by decide +kernel
theorem dX9_bring_75 : decode cX9_bring 75 = .ok (.return_, 1) := by decide +kernel
theorem dX10_init_0 : decode cX10_init 0 = .ok (.aload_n 0, 1) := by decide +kernel
theorem dX10_init_1 : decode cX10_init 1 = .ok (.invokespecial 3, 3) := by decide +kernel
theorem dX10_init_4 : decode cX10_init 4 = .ok (.aload_n 0, 1) := by decide +kernel
theorem dX10_init_5 : decode cX10_init 5 = .ok (.aload_n 1, 1) := by decide +kernel
theorem dX10_init_6 : decode cX10_init 6 = .ok (.putfield 9, 3) := by decide +kernel
theorem dX10_init_9 : decode cX10_init 9 = .ok (.return_, 1) := by decide +kernel
theorem dX10_open_0 : decode cX10_open 0 = .ok (.aload_n 0, 1) := by decide +kernel
theorem dX10_open_1 : decode cX10_open 1 = .ok (.iconst 0, 1) := by decide +kernel
theorem dX10_open_2 : decode cX10_open 2 = .ok (.iload_n 1, 1) := by decide +kernel
theorem dX10_open_3 : decode cX10_open 3 = .ok (.aload_n 0, 1) := by decide +kernel
theorem dX10_open_4 : decode cX10_open 4 = .ok (.getfield 9, 3) := by decide +kernel
theorem dX10_open_7 : decode cX10_open 7 = .ok (.arraylength, 1) := by decide +kernel
theorem dX10_open_8 : decode cX10_open 8 = .ok (.invokestatic 15, 3) := by decide +kernel
theorem dX10_open_11 : decode cX10_open 11 = .ok (.putfield 19, 3) := by decide +kernel
theorem dX10_open_14 : decode cX10_open 14 = .ok (.aload_n 0, 1) := by decide +kernel
theorem dX10_open_15 : decode cX10_open 15 = .ok (.iconst 0, 1) := by decide +kernel
theorem dX10_open_16 : decode cX10_open 16 = .ok (.putfield 23, 3) := by decide +kernel
theorem dX10_open_19 : decode cX10_open 19 = .ok (.aload_n 0, 1) := by decide +kernel
theorem dX10_open_20 : decode cX10_open 20 = .ok (.invokevirtual 26, 3) := by decide +kernel
theorem dX10_open_23 : decode cX10_open 23 = .ok (.return_, 1) := by decide +kernel
theorem dX10_sign_0 : decode cX10_sign 0 = .ok (.iload_n 1, 1) := by decide +kernel
theorem dX10_sign_1 : decode cX10_sign 1 = .ok (.ifCond .lt 29, 3) := by decide +kernel
theorem dX10_sign_4 : decode cX10_sign 4 = .ok (.iload_n 1, 1) := by decide +kernel
theorem dX10_sign_5 : decode cX10_sign 5 = .ok (.aload_n 0, 1) := by decide +kernel
theorem dX10_sign_6 : decode cX10_sign 6 = .ok (.getfield 19, 3) := by decide +kernel
theorem dX10_sign_9 : decode cX10_sign 9 = .ok (.if_icmp .ge 21, 3) := by decide +kernel
theorem dX10_sign_12 : decode cX10_sign 12 = .ok (.iload_n 1, 1) := by decide +kernel
theorem dX10_sign_13 : decode cX10_sign 13 = .ok (.aload_n 0, 1) := by decide +kernel
theorem dX10_sign_14 : decode cX10_sign 14 = .ok (.getfield 9, 3) := by decide +kernel
theorem dX10_sign_17 : decode cX10_sign 17 = .ok (.arraylength, 1) := by decide +kernel
theorem dX10_sign_18 : decode cX10_sign 18 = .ok (.if_icmp .ge 12, 3) := by decide +kernel
theorem dX10_sign_21 : decode cX10_sign 21 = .ok (.aload_n 0, 1) := by decide +kernel
theorem dX10_sign_22 : decode cX10_sign 22 = .ok (.getfield 9, 3) := by decide +kernel
theorem dX10_sign_25 : decode cX10_sign 25 = .ok (.iload_n 1, 1) := by decide +kernel
theorem dX10_sign_26 : decode cX10_sign 26 = .ok (.baload, 1) := by decide +kernel
theorem dX10_sign_27 : decode cX10_sign 27 = .ok (.goto 4, 3) := by decide +kernel
theorem dX10_sign_30 : decode cX10_sign 30 = .ok (.iconst (-1), 1) := by decide +kernel
theorem dX10_sign_31 : decode cX10_sign 31 = .ok (.ireturn, 1) := by decide +kernel
theorem dX10_move_0 : decode cX10_move 0 = .ok (.aload_n 0, 1) := by decide +kernel
theorem dX10_move_1 : decode cX10_move 1 = .ok (.getfield 23, 3) := by decide +kernel
theorem dX10_move_4 : decode cX10_move 4 = .ok (.aload_n 0, 1) := by decide +kernel
theorem dX10_move_5 : decode cX10_move 5 = .ok (.getfield 19, 3) := by decide +kernel
theorem dX10_move_8 : decode cX10_move 8 = .ok (.if_icmp .ge 30, 3) := by decide +kernel
theorem dX10_move_11 : decode cX10_move 11 = .ok (.aload_n 0, 1) := by decide +kernel
theorem dX10_move_12 : decode cX10_move 12 = .ok (.aload_n 0, 1) := by decide +kernel
theorem dX10_move_13 : decode cX10_move 13 = .ok (.getfield 23, 3) := by decide +kernel
theorem dX10_move_16 : decode cX10_move 16 = .ok (.invokevirtual 29, 3) := by decide +kernel
theorem dX10_move_19 : decode cX10_move 19 = .ok (.invokestatic 33, 3) := by decide +kernel
theorem dX10_move_22 : decode cX10_move 22 = .ok (.ifCond .eq 16, 3) := by decide +kernel
theorem dX10_move_25 : decode cX10_move 25 = .ok (.aload_n 0, 1) := by decide +kernel
theorem dX10_move_26 : decode cX10_move 26 = .ok (.dup, 1) := by decide +kernel
theorem dX10_move_27 : decode cX10_move 27 = .ok (.getfield 23, 3) := by decide +kernel
theorem dX10_move_30 : decode cX10_move 30 = .ok (.iconst 1, 1) := by decide +kernel
theorem dX10_move_31 : decode cX10_move 31 = .ok (.iadd, 1) := by decide +kernel
theorem dX10_move_32 : decode cX10_move 32 = .ok (.putfield 23, 3) := by decide +kernel
theorem dX10_move_35 : decode cX10_move 35 = .ok (.goto (-35), 3) := by decide +kernel
theorem dX10_move_38 : decode cX10_move 38 = .ok (.aload_n 0, 1) := by decide +kernel
theorem dX10_move_39 : decode cX10_move 39 = .ok (.aload_n 0, 1) := by decide +kernel
theorem dX10_move_40 : decode cX10_move 40 = .ok (.getfield 23, 3) := by decide +kernel
theorem dX10_move_43 : decode cX10_move 43 = .ok (.putfield 37, 3) := by decide +kernel
theorem dX10_move_46 : decode cX10_move 46 = .ok (.aload_n 0, 1) := by decide +kernel
theorem dX10_move_47 : decode cX10_move 47 = .ok (.aload_n 0, 1) := by decide +kernel
theorem dX10_move_48 : decode cX10_move 48 = .ok (.getfield 23, 3) := by decide +kernel
theorem dX10_move_51 : decode cX10_move 51 = .ok (.invokevirtual 29, 3) := by decide +kernel
theorem dX10_move_54 : decode cX10_move 54 = .ok (.istore_n 1, 1) := by decide +kernel
theorem dX10_move_55 : decode cX10_move 55 = .ok (.aload_n 0, 1) := by decide +kernel
theorem dX10_move_56 : decode cX10_move 56 = .ok (.getfield 23, 3) := by decide +kernel
theorem dX10_move_59 : decode cX10_move 59 = .ok (.aload_n 0, 1) := by decide +kernel
theorem dX10_move_60 : decode cX10_move 60 = .ok (.getfield 19, 3) := by decide +kernel
theorem dX10_move_63 : decode cX10_move 63 = .ok (.if_icmp .lt 11, 3) := by decide +kernel
theorem dX10_move_66 : decode cX10_move 66 = .ok (.aload_n 0, 1) := by decide +kernel
theorem dX10_move_67 : decode cX10_move 67 = .ok (.iconst 0, 1) := by decide +kernel
theorem dX10_move_68 : decode cX10_move 68 = .ok (.putfield 40, 3) := by decide +kernel
theorem dX10_move_71 : decode cX10_move 71 = .ok (.goto 57, 3) := by decide +kernel
theorem dX10_move_74 : decode cX10_move 74 = .ok (.iload_n 1, 1) := by decide +kernel
theorem dX10_move_75 : decode cX10_move 75 = .ok (.invokestatic 43, 3) := by decide +kernel
theorem dX10_move_78 : decode cX10_move 78 = .ok (.ifCond .eq 10, 3) := by decide +kernel
theorem dX10_move_81 : decode cX10_move 81 = .ok (.aload_n 0, 1) := by decide +kernel
theorem dX10_move_82 : decode cX10_move 82 = .ok (.invokevirtual 46, 3) := by decide +kernel
theorem dX10_move_85 : decode cX10_move 85 = .ok (.goto 43, 3) := by decide +kernel
theorem dX10_move_88 : decode cX10_move 88 = .ok (.iload_n 1, 1) := by decide +kernel
theorem dX10_move_89 : decode cX10_move 89 = .ok (.invokestatic 49, 3) := by decide +kernel
theorem dX10_move_92 : decode cX10_move 92 = .ok (.ifCond .eq 10, 3) := by decide +kernel
theorem dX10_move_95 : decode cX10_move 95 = .ok (.aload_n 0, 1) := by decide +kernel
theorem dX10_move_96 : decode cX10_move 96 = .ok (.invokevirtual 52, 3) := by decide +kernel
theorem dX10_move_99 : decode cX10_move 99 = .ok (.goto 29, 3) := by decide +kernel
theorem dX10_move_102 : decode cX10_move 102 = .ok (.aload_n 0, 1) := by decide +kernel
theorem dX10_move_103 : decode cX10_move 103 = .ok (.dup, 1) := by decide +kernel
theorem dX10_move_104 : decode cX10_move 104 = .ok (.getfield 23, 3) := by decide +kernel
theorem dX10_move_107 : decode cX10_move 107 = .ok (.iconst 1, 1) := by decide +kernel
theorem dX10_move_108 : decode cX10_move 108 = .ok (.iadd, 1) := by decide +kernel
theorem dX10_move_109 : decode cX10_move 109 = .ok (.putfield 23, 3) := by decide +kernel
theorem dX10_move_112 : decode cX10_move 112 = .ok (.aload_n 0, 1) := by decide +kernel
theorem dX10_move_113 : decode cX10_move 113 = .ok (.iload_n 1, 1) := by decide +kernel
theorem dX10_move_114 : decode cX10_move 114 = .ok (.invokestatic 55, 3) := by decide +kernel
theorem dX10_move_117 : decode cX10_move 117 = .ok (.ifCond .eq 7, 3) := by decide +kernel
theorem dX10_move_120 : decode cX10_move 120 = .ok (.iload_n 1, 1) := by decide +kernel
theorem dX10_move_121 : decode cX10_move 121 = .ok (.goto 4, 3) := by decide +kernel
theorem dX10_move_124 : decode cX10_move 124 = .ok (.iconst 1, 1) := by decide +kernel
theorem dX10_move_125 : decode cX10_move 125 = .ok (.putfield 40, 3) := by decide +kernel
theorem dX10_move_128 : decode cX10_move 128 = .ok (.return_, 1) := by decide +kernel
theorem dX10_takeWord_0 : decode cX10_takeWord 0 = .ok (.aload_n 0, 1) := by decide +kernel
theorem dX10_takeWord_1 : decode cX10_takeWord 1 = .ok (.lconst 0, 1) := by decide +kernel
theorem dX10_takeWord_2 : decode cX10_takeWord 2 = .ok (.putfield 58, 3) := by decide +kernel
theorem dX10_takeWord_5 : decode cX10_takeWord 5 = .ok (.aload_n 0, 1) := by decide +kernel
theorem dX10_takeWord_6 : decode cX10_takeWord 6 = .ok (.getfield 23, 3) := by decide +kernel
theorem dX10_takeWord_9 : decode cX10_takeWord 9 = .ok (.aload_n 0, 1) := by decide +kernel
theorem dX10_takeWord_10 : decode cX10_takeWord 10 = .ok (.getfield 19, 3) := by decide +kernel
theorem dX10_takeWord_13 : decode cX10_takeWord 13 = .ok (.if_icmp .ge 57, 3) := by decide +kernel
theorem dX10_takeWord_16 : decode cX10_takeWord 16 = .ok (.aload_n 0, 1) := by decide +kernel
theorem dX10_takeWord_17 : decode cX10_takeWord 17 = .ok (.aload_n 0, 1) := by decide +kernel
theorem dX10_takeWord_18 : decode cX10_takeWord 18 = .ok (.getfield 23, 3) := by decide +kernel
theorem dX10_takeWord_21 : decode cX10_takeWord 21 = .ok (.invokevirtual 29, 3) := by decide +kernel
theorem dX10_takeWord_24 : decode cX10_takeWord 24 = .ok (.invokestatic 43, 3) := by decide +kernel
theorem dX10_takeWord_27 : decode cX10_takeWord 27 = .ok (.ifCond .eq 43, 3) := by decide +kernel
theorem dX10_takeWord_30 : decode cX10_takeWord 30 = .ok (.aload_n 0, 1) := by decide +kernel
theorem dX10_takeWord_31 : decode cX10_takeWord 31 = .ok (.ldc2_w 62, 3) := by decide +kernel
theorem dX10_takeWord_34 : decode cX10_takeWord 34 = .ok (.aload_n 0, 1) := by decide +kernel
theorem dX10_takeWord_35 : decode cX10_takeWord 35 = .ok (.getfield 58, 3) := by decide +kernel
theorem dX10_takeWord_38 : decode cX10_takeWord 38 = .ok (.lmul, 1) := by decide +kernel
theorem dX10_takeWord_39 : decode cX10_takeWord 39 = .ok (.aload_n 0, 1) := by decide +kernel
theorem dX10_takeWord_40 : decode cX10_takeWord 40 = .ok (.aload_n 0, 1) := by decide +kernel
theorem dX10_takeWord_41 : decode cX10_takeWord 41 = .ok (.getfield 23, 3) := by decide +kernel
theorem dX10_takeWord_44 : decode cX10_takeWord 44 = .ok (.invokevirtual 29, 3) := by decide +kernel
theorem dX10_takeWord_47 : decode cX10_takeWord 47 = .ok (.bipush 97, 2) := by decide +kernel
theorem dX10_takeWord_49 : decode cX10_takeWord 49 = .ok (.isub, 1) := by decide +kernel
theorem dX10_takeWord_50 : decode cX10_takeWord 50 = .ok (.iconst 1, 1) := by decide +kernel
theorem dX10_takeWord_51 : decode cX10_takeWord 51 = .ok (.iadd, 1) := by decide +kernel
theorem dX10_takeWord_52 : decode cX10_takeWord 52 = .ok (.i2l, 1) := by decide +kernel
theorem dX10_takeWord_53 : decode cX10_takeWord 53 = .ok (.ladd, 1) := by decide +kernel
theorem dX10_takeWord_54 : decode cX10_takeWord 54 = .ok (.putfield 58, 3) := by decide +kernel
theorem dX10_takeWord_57 : decode cX10_takeWord 57 = .ok (.aload_n 0, 1) := by decide +kernel
theorem dX10_takeWord_58 : decode cX10_takeWord 58 = .ok (.dup, 1) := by decide +kernel
theorem dX10_takeWord_59 : decode cX10_takeWord 59 = .ok (.getfield 23, 3) := by decide +kernel
theorem dX10_takeWord_62 : decode cX10_takeWord 62 = .ok (.iconst 1, 1) := by decide +kernel
theorem dX10_takeWord_63 : decode cX10_takeWord 63 = .ok (.iadd, 1) := by decide +kernel
theorem dX10_takeWord_64 : decode cX10_takeWord 64 = .ok (.putfield 23, 3) := by decide +kernel
theorem dX10_takeWord_67 : decode cX10_takeWord 67 = .ok (.goto (-62), 3) := by decide +kernel
theorem dX10_takeWord_70 : decode cX10_takeWord 70 = .ok (.aload_n 0, 1) := by decide +kernel
theorem dX10_takeWord_71 : decode cX10_takeWord 71 = .ok (.aload_n 0, 1) := by decide +kernel
theorem dX10_takeWord_72 : decode cX10_takeWord 72 = .ok (.getfield 23, 3) := by decide +kernel
theorem dX10_takeWord_75 : decode cX10_takeWord 75 = .ok (.aload_n 0, 1) := by decide +kernel
theorem dX10_takeWord_76 : decode cX10_takeWord 76 = .ok (.getfield 37, 3) := by decide +kernel
theorem dX10_takeWord_79 : decode cX10_takeWord 79 = .ok (.isub, 1) := by decide +kernel
theorem dX10_takeWord_80 : decode cX10_takeWord 80 = .ok (.bipush 8, 2) := by decide +kernel
theorem dX10_takeWord_82 : decode cX10_takeWord 82 = .ok (.if_icmp .le 7, 3) := by decide +kernel
theorem dX10_takeWord_85 : decode cX10_takeWord 85 = .ok (.iconst 1, 1) := by decide +kernel
theorem dX10_takeWord_86 : decode cX10_takeWord 86 = .ok (.goto 4, 3) := by decide +kernel
theorem dX10_takeWord_89 : decode cX10_takeWord 89 = .ok (.iconst 3, 1) := by decide +kernel
theorem dX10_takeWord_90 : decode cX10_takeWord 90 = .ok (.putfield 40, 3) := by decide +kernel
theorem dX10_takeWord_93 : decode cX10_takeWord 93 = .ok (.sipush 256, 3) := by decide +kernel
theorem dX10_takeWord_96 : decode cX10_takeWord 96 = .ok (.istore_n 1, 1) := by decide +kernel
theorem dX10_takeWord_97 : decode cX10_takeWord 97 = .ok (.lconst 0, 1) := by decide +kernel
theorem dX10_takeWord_98 : decode cX10_takeWord 98 = .ok (.lstore_n 2, 1) := by decide +kernel
theorem dX10_takeWord_99 : decode cX10_takeWord 99 = .ok (.iconst 0, 1) := by decide +kernel
theorem dX10_takeWord_100 : decode cX10_takeWord 100 = .ok (.istore 4, 2) := by decide +kernel
theorem dX10_takeWord_102 : decode cX10_takeWord 102 = .ok (.iload 4, 2) := by decide +kernel
theorem dX10_takeWord_104 : decode cX10_takeWord 104 = .ok (.ldc 64, 2) := by decide +kernel
theorem dX10_takeWord_106 : decode cX10_takeWord 106 = .ok (.invokevirtual 66, 3) := by decide +kernel
theorem dX10_takeWord_109 : decode cX10_takeWord 109 = .ok (.if_icmp .ge 73, 3) := by decide +kernel
theorem dX10_takeWord_112 : decode cX10_takeWord 112 = .ok (.aload_n 0, 1) := by decide +kernel
theorem dX10_takeWord_113 : decode cX10_takeWord 113 = .ok (.getfield 40, 3) := by decide +kernel
theorem dX10_takeWord_116 : decode cX10_takeWord 116 = .ok (.iconst 3, 1) := by decide +kernel
theorem dX10_takeWord_117 : decode cX10_takeWord 117 = .ok (.if_icmp .ne 65, 3) := by decide +kernel
theorem dX10_takeWord_120 : decode cX10_takeWord 120 = .ok (.ldc 64, 2) := by decide +kernel
theorem dX10_takeWord_122 : decode cX10_takeWord 122 = .ok (.iload 4, 2) := by decide +kernel
theorem dX10_takeWord_124 : decode cX10_takeWord 124 = .ok (.invokevirtual 71, 3) := by decide +kernel
theorem dX10_takeWord_127 : decode cX10_takeWord 127 = .ok (.istore 5, 2) := by decide +kernel
theorem dX10_takeWord_129 : decode cX10_takeWord 129 = .ok (.iload 5, 2) := by decide +kernel
theorem dX10_takeWord_131 : decode cX10_takeWord 131 = .ok (.bipush 32, 2) := by decide +kernel
theorem dX10_takeWord_133 : decode cX10_takeWord 133 = .ok (.if_icmp .eq 21, 3) := by decide +kernel
theorem dX10_takeWord_136 : decode cX10_takeWord 136 = .ok (.ldc2_w 62, 3) := by decide +kernel
theorem dX10_takeWord_139 : decode cX10_takeWord 139 = .ok (.lload_n 2, 1) := by decide +kernel
theorem dX10_takeWord_140 : decode cX10_takeWord 140 = .ok (.lmul, 1) := by decide +kernel
theorem dX10_takeWord_141 : decode cX10_takeWord 141 = .ok (.iload 5, 2) := by decide +kernel
theorem dX10_takeWord_143 : decode cX10_takeWord 143 = .ok (.bipush 97, 2) := by decide +kernel
theorem dX10_takeWord_145 : decode cX10_takeWord 145 = .ok (.isub, 1) := by decide +kernel
theorem dX10_takeWord_146 : decode cX10_takeWord 146 = .ok (.iconst 1, 1) := by decide +kernel
theorem dX10_takeWord_147 : decode cX10_takeWord 147 = .ok (.iadd, 1) := by decide +kernel
theorem dX10_takeWord_148 : decode cX10_takeWord 148 = .ok (.i2l, 1) := by decide +kernel
theorem dX10_takeWord_149 : decode cX10_takeWord 149 = .ok (.ladd, 1) := by decide +kernel
theorem dX10_takeWord_150 : decode cX10_takeWord 150 = .ok (.lstore_n 2, 1) := by decide +kernel
theorem dX10_takeWord_151 : decode cX10_takeWord 151 = .ok (.goto 25, 3) := by decide +kernel
theorem dX10_takeWord_154 : decode cX10_takeWord 154 = .ok (.lload_n 2, 1) := by decide +kernel
theorem dX10_takeWord_155 : decode cX10_takeWord 155 = .ok (.aload_n 0, 1) := by decide +kernel
theorem dX10_takeWord_156 : decode cX10_takeWord 156 = .ok (.getfield 58, 3) := by decide +kernel
theorem dX10_takeWord_159 : decode cX10_takeWord 159 = .ok (.lcmp, 1) := by decide +kernel
theorem dX10_takeWord_160 : decode cX10_takeWord 160 = .ok (.ifCond .ne 11, 3) := by decide +kernel
theorem dX10_takeWord_163 : decode cX10_takeWord 163 = .ok (.aload_n 0, 1) := by decide +kernel
theorem dX10_takeWord_164 : decode cX10_takeWord 164 = .ok (.iload_n 1, 1) := by decide +kernel
theorem dX10_takeWord_165 : decode cX10_takeWord 165 = .ok (.putfield 40, 3) := by decide +kernel
theorem dX10_takeWord_168 : decode cX10_takeWord 168 = .ok (.goto 8, 3) := by decide +kernel
theorem dX10_takeWord_171 : decode cX10_takeWord 171 = .ok (.iinc 1 1, 3) := by decide +kernel
theorem dX10_takeWord_174 : decode cX10_takeWord 174 = .ok (.lconst 0, 1) := by decide +kernel
theorem dX10_takeWord_175 : decode cX10_takeWord 175 = .ok (.lstore_n 2, 1) := by decide +kernel
theorem dX10_takeWord_176 : decode cX10_takeWord 176 = .ok (.iinc 4 1, 3) := by decide +kernel
theorem dX10_takeWord_179 : decode cX10_takeWord 179 = .ok (.goto (-77), 3) := by decide +kernel
theorem dX10_takeWord_182 : decode cX10_takeWord 182 = .ok (.return_, 1) := by decide +kernel
theorem dX10_takeNumber_0 : decode cX10_takeNumber 0 = .ok (.aload_n 0, 1) := by decide +kernel
theorem dX10_takeNumber_1 : decode cX10_takeNumber 1 = .ok (.iconst 0, 1) := by decide +kernel
theorem dX10_takeNumber_2 : decode cX10_takeNumber 2 = .ok (.putfield 75, 3) := by decide +kernel
theorem dX10_takeNumber_5 : decode cX10_takeNumber 5 = .ok (.aload_n 0, 1) := by decide +kernel
theorem dX10_takeNumber_6 : decode cX10_takeNumber 6 = .ok (.getfield 23, 3) := by decide +kernel
theorem dX10_takeNumber_9 : decode cX10_takeNumber 9 = .ok (.aload_n 0, 1) := by decide +kernel
theorem dX10_takeNumber_10 : decode cX10_takeNumber 10 = .ok (.getfield 19, 3) := by decide +kernel
theorem dX10_takeNumber_13 : decode cX10_takeNumber 13 = .ok (.if_icmp .ge 53, 3) := by decide +kernel
theorem dX10_takeNumber_16 : decode cX10_takeNumber 16 = .ok (.aload_n 0, 1) := by decide +kernel
theorem dX10_takeNumber_17 : decode cX10_takeNumber 17 = .ok (.aload_n 0, 1) := by decide +kernel
theorem dX10_takeNumber_18 : decode cX10_takeNumber 18 = .ok (.getfield 23, 3) := by decide +kernel
theorem dX10_takeNumber_21 : decode cX10_takeNumber 21 = .ok (.invokevirtual 29, 3) := by decide +kernel
theorem dX10_takeNumber_24 : decode cX10_takeNumber 24 = .ok (.invokestatic 49, 3) := by decide +kernel
theorem dX10_takeNumber_27 : decode cX10_takeNumber 27 = .ok (.ifCond .eq 39, 3) := by decide +kernel
theorem dX10_takeNumber_30 : decode cX10_takeNumber 30 = .ok (.aload_n 0, 1) := by decide +kernel
theorem dX10_takeNumber_31 : decode cX10_takeNumber 31 = .ok (.bipush 10, 2) := by decide +kernel
theorem dX10_takeNumber_33 : decode cX10_takeNumber 33 = .ok (.aload_n 0, 1) := by decide +kernel
theorem dX10_takeNumber_34 : decode cX10_takeNumber 34 = .ok (.getfield 75, 3) := by decide +kernel
theorem dX10_takeNumber_37 : decode cX10_takeNumber 37 = .ok (.imul, 1) := by decide +kernel
theorem dX10_takeNumber_38 : decode cX10_takeNumber 38 = .ok (.aload_n 0, 1) := by decide +kernel
theorem dX10_takeNumber_39 : decode cX10_takeNumber 39 = .ok (.aload_n 0, 1) := by decide +kernel
theorem dX10_takeNumber_40 : decode cX10_takeNumber 40 = .ok (.getfield 23, 3) := by decide +kernel
theorem dX10_takeNumber_43 : decode cX10_takeNumber 43 = .ok (.invokevirtual 29, 3) := by decide +kernel
theorem dX10_takeNumber_46 : decode cX10_takeNumber 46 = .ok (.bipush 48, 2) := by decide +kernel
theorem dX10_takeNumber_48 : decode cX10_takeNumber 48 = .ok (.isub, 1) := by decide +kernel
theorem dX10_takeNumber_49 : decode cX10_takeNumber 49 = .ok (.iadd, 1) := by decide +kernel
theorem dX10_takeNumber_50 : decode cX10_takeNumber 50 = .ok (.putfield 75, 3) := by decide +kernel
theorem dX10_takeNumber_53 : decode cX10_takeNumber 53 = .ok (.aload_n 0, 1) := by decide +kernel
theorem dX10_takeNumber_54 : decode cX10_takeNumber 54 = .ok (.dup, 1) := by decide +kernel
theorem dX10_takeNumber_55 : decode cX10_takeNumber 55 = .ok (.getfield 23, 3) := by decide +kernel
theorem dX10_takeNumber_58 : decode cX10_takeNumber 58 = .ok (.iconst 1, 1) := by decide +kernel
theorem dX10_takeNumber_59 : decode cX10_takeNumber 59 = .ok (.iadd, 1) := by decide +kernel
theorem dX10_takeNumber_60 : decode cX10_takeNumber 60 = .ok (.putfield 23, 3) := by decide +kernel
theorem dX10_takeNumber_63 : decode cX10_takeNumber 63 = .ok (.goto (-58), 3) := by decide +kernel
theorem dX10_takeNumber_66 : decode cX10_takeNumber 66 = .ok (.aload_n 0, 1) := by decide +kernel
theorem dX10_takeNumber_67 : decode cX10_takeNumber 67 = .ok (.aload_n 0, 1) := by decide +kernel
theorem dX10_takeNumber_68 : decode cX10_takeNumber 68 = .ok (.getfield 23, 3) := by decide +kernel
theorem dX10_takeNumber_71 : decode cX10_takeNumber 71 = .ok (.aload_n 0, 1) := by decide +kernel
theorem dX10_takeNumber_72 : decode cX10_takeNumber 72 = .ok (.getfield 37, 3) := by decide +kernel
theorem dX10_takeNumber_75 : decode cX10_takeNumber 75 = .ok (.isub, 1) := by decide +kernel
theorem dX10_takeNumber_76 : decode cX10_takeNumber 76 = .ok (.iconst 4, 1) := by decide +kernel
theorem dX10_takeNumber_77 : decode cX10_takeNumber 77 = .ok (.if_icmp .gt 17, 3) := by decide +kernel
theorem dX10_takeNumber_80 : decode cX10_takeNumber 80 = .ok (.aload_n 0, 1) := by decide +kernel
theorem dX10_takeNumber_81 : decode cX10_takeNumber 81 = .ok (.aload_n 0, 1) := by decide +kernel
theorem dX10_takeNumber_82 : decode cX10_takeNumber 82 = .ok (.getfield 23, 3) := by decide +kernel
theorem dX10_takeNumber_85 : decode cX10_takeNumber 85 = .ok (.invokevirtual 29, 3) := by decide +kernel
theorem dX10_takeNumber_88 : decode cX10_takeNumber 88 = .ok (.invokestatic 43, 3) := by decide +kernel
theorem dX10_takeNumber_91 : decode cX10_takeNumber 91 = .ok (.ifCond .eq 7, 3) := by decide +kernel
theorem dX10_takeNumber_94 : decode cX10_takeNumber 94 = .ok (.iconst 1, 1) := by decide +kernel
theorem dX10_takeNumber_95 : decode cX10_takeNumber 95 = .ok (.goto 4, 3) := by decide +kernel
theorem dX10_takeNumber_98 : decode cX10_takeNumber 98 = .ok (.iconst 2, 1) := by decide +kernel
theorem dX10_takeNumber_99 : decode cX10_takeNumber 99 = .ok (.putfield 40, 3) := by decide +kernel
theorem dX10_takeNumber_102 : decode cX10_takeNumber 102 = .ok (.return_, 1) := by decide +kernel
theorem dX10_isBlank_0 : decode cX10_isBlank 0 = .ok (.iload_n 0, 1) := by decide +kernel
theorem dX10_isBlank_1 : decode cX10_isBlank 1 = .ok (.bipush 32, 2) := by decide +kernel
theorem dX10_isBlank_3 : decode cX10_isBlank 3 = .ok (.if_icmp .eq 9, 3) := by decide +kernel
theorem dX10_isBlank_6 : decode cX10_isBlank 6 = .ok (.iload_n 0, 1) := by decide +kernel
theorem dX10_isBlank_7 : decode cX10_isBlank 7 = .ok (.bipush 10, 2) := by decide +kernel
theorem dX10_isBlank_9 : decode cX10_isBlank 9 = .ok (.if_icmp .ne 7, 3) := by decide +kernel
theorem dX10_isBlank_12 : decode cX10_isBlank 12 = .ok (.iconst 1, 1) := by decide +kernel
theorem dX10_isBlank_13 : decode cX10_isBlank 13 = .ok (.goto 4, 3) := by decide +kernel
theorem dX10_isBlank_16 : decode cX10_isBlank 16 = .ok (.iconst 0, 1) := by decide +kernel
theorem dX10_isBlank_17 : decode cX10_isBlank 17 = .ok (.ireturn, 1) := by decide +kernel
theorem dX10_isLetter_0 : decode cX10_isLetter 0 = .ok (.iload_n 0, 1) := by decide +kernel
theorem dX10_isLetter_1 : decode cX10_isLetter 1 = .ok (.bipush 97, 2) := by decide +kernel
theorem dX10_isLetter_3 : decode cX10_isLetter 3 = .ok (.if_icmp .lt 13, 3) := by decide +kernel
theorem dX10_isLetter_6 : decode cX10_isLetter 6 = .ok (.iload_n 0, 1) := by decide +kernel
theorem dX10_isLetter_7 : decode cX10_isLetter 7 = .ok (.bipush 122, 2) := by decide +kernel
theorem dX10_isLetter_9 : decode cX10_isLetter 9 = .ok (.if_icmp .gt 7, 3) := by decide +kernel
theorem dX10_isLetter_12 : decode cX10_isLetter 12 = .ok (.iconst 1, 1) := by decide +kernel
theorem dX10_isLetter_13 : decode cX10_isLetter 13 = .ok (.goto 4, 3) := by decide +kernel
theorem dX10_isLetter_16 : decode cX10_isLetter 16 = .ok (.iconst 0, 1) := by decide +kernel
theorem dX10_isLetter_17 : decode cX10_isLetter 17 = .ok (.ireturn, 1) := by decide +kernel
theorem dX10_isDigit_0 : decode cX10_isDigit 0 = .ok (.iload_n 0, 1) := by decide +kernel
theorem dX10_isDigit_1 : decode cX10_isDigit 1 = .ok (.bipush 48, 2) := by decide +kernel
theorem dX10_isDigit_3 : decode cX10_isDigit 3 = .ok (.if_icmp .lt 13, 3) := by decide +kernel
theorem dX10_isDigit_6 : decode cX10_isDigit 6 = .ok (.iload_n 0, 1) := by decide +kernel
theorem dX10_isDigit_7 : decode cX10_isDigit 7 = .ok (.bipush 57, 2) := by decide +kernel
theorem dX10_isDigit_9 : decode cX10_isDigit 9 = .ok (.if_icmp .gt 7, 3) := by decide +kernel
theorem dX10_isDigit_12 : decode cX10_isDigit 12 = .ok (.iconst 1, 1) := by decide +kernel
theorem dX10_isDigit_13 : decode cX10_isDigit 13 = .ok (.goto 4, 3) := by decide +kernel
theorem dX10_isDigit_16 : decode cX10_isDigit 16 = .ok (.iconst 0, 1) := by decide +kernel
theorem dX10_isDigit_17 : decode cX10_isDigit 17 = .ok (.ireturn, 1) := by decide +kernel
theorem dX10_isSign_0 : decode cX10_isSign 0 = .ok (.iload_n 0, 1) := by decide +kernel
theorem dX10_isSign_1 : decode cX10_isSign 1 = .ok (.tableswitch 121 37 62 #[119, 121, 121, 119, 119, 119, 119, 121, 119, 121, 119, 121, 121, 121, 121, 121, 121, 121, 121, 121, 121, 121, 119, 119, 119, 119], 119) := by decide +kernel
theorem dX10_isSign_120 : decode cX10_isSign 120 = .ok (.iconst 1, 1) := by decide +kernel
theorem dX10_isSign_121 : decode cX10_isSign 121 = .ok (.ireturn, 1) := by decide +kernel
theorem dX10_isSign_122 : decode cX10_isSign 122 = .ok (.iconst 0, 1) := by decide +kernel
theorem dX10_isSign_123 : decode cX10_isSign 123 = .ok (.ireturn, 1) := by decide +kernel
theorem dX11_init_0 : decode cX11_init 0 = .ok (.aload_n 0, 1) := by decide +kernel
theorem dX11_init_1 : decode cX11_init 1 = .ok (.invokespecial 3, 3) := by decide +kernel
theorem dX11_init_4 : decode cX11_init 4 = .ok (.aload_n 0, 1) := by decide +kernel
theorem dX11_init_5 : decode cX11_init 5 = .ok (.sipush 1600, 3) := by decide +kernel
theorem dX11_init_8 : decode cX11_init 8 = .ok (.newarray .byte, 2) := by decide +kernel
theorem dX11_init_10 : decode cX11_init 10 = .ok (.putfield 9, 3) := by decide +kernel
theorem dX11_init_13 : decode cX11_init 13 = .ok (.aload_n 0, 1) := by decide +kernel
theorem dX11_init_14 : decode cX11_init 14 = .ok (.iconst 0, 1) := by decide +kernel
theorem dX11_init_15 : decode cX11_init 15 = .ok (.putfield 13, 3) := by decide +kernel
theorem dX11_init_18 : decode cX11_init 18 = .ok (.aload_n 0, 1) := by decide +kernel
theorem dX11_init_19 : decode cX11_init 19 = .ok (.new 17, 3) := by decide +kernel
theorem dX11_init_22 : decode cX11_init 22 = .ok (.dup, 1) := by decide +kernel
theorem dX11_init_23 : decode cX11_init 23 = .ok (.invokespecial 19, 3) := by decide +kernel
theorem dX11_init_26 : decode cX11_init 26 = .ok (.putfield 20, 3) := by decide +kernel
theorem dX11_init_29 : decode cX11_init 29 = .ok (.aload_n 0, 1) := by decide +kernel
theorem dX11_init_30 : decode cX11_init 30 = .ok (.new 17, 3) := by decide +kernel
theorem dX11_init_33 : decode cX11_init 33 = .ok (.dup, 1) := by decide +kernel
theorem dX11_init_34 : decode cX11_init 34 = .ok (.invokespecial 19, 3) := by decide +kernel
theorem dX11_init_37 : decode cX11_init 37 = .ok (.putfield 24, 3) := by decide +kernel
theorem dX11_init_40 : decode cX11_init 40 = .ok (.aload_n 0, 1) := by decide +kernel
theorem dX11_init_41 : decode cX11_init 41 = .ok (.new 27, 3) := by decide +kernel
theorem dX11_init_44 : decode cX11_init 44 = .ok (.dup, 1) := by decide +kernel
theorem dX11_init_45 : decode cX11_init 45 = .ok (.new 29, 3) := by decide +kernel
theorem dX11_init_48 : decode cX11_init 48 = .ok (.dup, 1) := by decide +kernel
theorem dX11_init_49 : decode cX11_init 49 = .ok (.aload_n 0, 1) := by decide +kernel
theorem dX11_init_50 : decode cX11_init 50 = .ok (.getfield 9, 3) := by decide +kernel
theorem dX11_init_53 : decode cX11_init 53 = .ok (.invokespecial 31, 3) := by decide +kernel
theorem dX11_init_56 : decode cX11_init 56 = .ok (.invokespecial 34, 3) := by decide +kernel
theorem dX11_init_59 : decode cX11_init 59 = .ok (.putfield 37, 3) := by decide +kernel
theorem dX11_init_62 : decode cX11_init 62 = .ok (.aload_n 0, 1) := by decide +kernel
theorem dX11_init_63 : decode cX11_init 63 = .ok (.new 41, 3) := by decide +kernel
theorem dX11_init_66 : decode cX11_init 66 = .ok (.dup, 1) := by decide +kernel
theorem dX11_init_67 : decode cX11_init 67 = .ok (.aload_n 0, 1) := by decide +kernel
theorem dX11_init_68 : decode cX11_init 68 = .ok (.getfield 20, 3) := by decide +kernel
theorem dX11_init_71 : decode cX11_init 71 = .ok (.invokespecial 43, 3) := by decide +kernel
theorem dX11_init_74 : decode cX11_init 74 = .ok (.putfield 46, 3) := by decide +kernel
theorem dX11_init_77 : decode cX11_init 77 = .ok (.aload_n 0, 1) := by decide +kernel
theorem dX11_init_78 : decode cX11_init 78 = .ok (.new 50, 3) := by decide +kernel
theorem dX11_init_81 : decode cX11_init 81 = .ok (.dup, 1) := by decide +kernel
theorem dX11_init_82 : decode cX11_init 82 = .ok (.invokespecial 52, 3) := by decide +kernel
theorem dX11_init_85 : decode cX11_init 85 = .ok (.putfield 53, 3) := by decide +kernel
theorem dX11_init_88 : decode cX11_init 88 = .ok (.aload_n 0, 1) := by decide +kernel
theorem dX11_init_89 : decode cX11_init 89 = .ok (.new 57, 3) := by decide +kernel
theorem dX11_init_92 : decode cX11_init 92 = .ok (.dup, 1) := by decide +kernel
theorem dX11_init_93 : decode cX11_init 93 = .ok (.aload_n 0, 1) := by decide +kernel
theorem dX11_init_94 : decode cX11_init 94 = .ok (.getfield 20, 3) := by decide +kernel
theorem dX11_init_97 : decode cX11_init 97 = .ok (.invokespecial 59, 3) := by decide +kernel
theorem dX11_init_100 : decode cX11_init 100 = .ok (.putfield 60, 3) := by decide +kernel
theorem dX11_init_103 : decode cX11_init 103 = .ok (.aload_n 0, 1) := by decide +kernel
theorem dX11_init_104 : decode cX11_init 104 = .ok (.new 64, 3) := by decide +kernel
theorem dX11_init_107 : decode cX11_init 107 = .ok (.dup, 1) := by decide +kernel
theorem dX11_init_108 : decode cX11_init 108 = .ok (.aload_n 0, 1) := by decide +kernel
theorem dX11_init_109 : decode cX11_init 109 = .ok (.getfield 20, 3) := by decide +kernel
theorem dX11_init_112 : decode cX11_init 112 = .ok (.aload_n 0, 1) := by decide +kernel
theorem dX11_init_113 : decode cX11_init 113 = .ok (.getfield 46, 3) := by decide +kernel
theorem dX11_init_116 : decode cX11_init 116 = .ok (.getfield 66, 3) := by decide +kernel
theorem dX11_init_119 : decode cX11_init 119 = .ok (.invokespecial 70, 3) := by decide +kernel
theorem dX11_init_122 : decode cX11_init 122 = .ok (.putfield 73, 3) := by decide +kernel
theorem dX11_init_125 : decode cX11_init 125 = .ok (.aload_n 0, 1) := by decide +kernel
theorem dX11_init_126 : decode cX11_init 126 = .ok (.new 77, 3) := by decide +kernel
theorem dX11_init_129 : decode cX11_init 129 = .ok (.dup, 1) := by decide +kernel
theorem dX11_init_130 : decode cX11_init 130 = .ok (.aload_n 0, 1) := by decide +kernel
theorem dX11_init_131 : decode cX11_init 131 = .ok (.getfield 20, 3) := by decide +kernel
theorem dX11_init_134 : decode cX11_init 134 = .ok (.invokespecial 79, 3) := by decide +kernel
theorem dX11_init_137 : decode cX11_init 137 = .ok (.putfield 80, 3) := by decide +kernel
theorem dX11_init_140 : decode cX11_init 140 = .ok (.return_, 1) := by decide +kernel
theorem dX11_feed_0 : decode cX11_feed 0 = .ok (.aload_n 0, 1) := by decide +kernel
theorem dX11_feed_1 : decode cX11_feed 1 = .ok (.getfield 13, 3) := by decide +kernel
theorem dX11_feed_4 : decode cX11_feed 4 = .ok (.sipush 1580, 3) := by decide +kernel
theorem dX11_feed_7 : decode cX11_feed 7 = .ok (.if_icmp .le 5, 3) := by decide +kernel
theorem dX11_feed_10 : decode cX11_feed 10 = .ok (.iconst (-1), 1) := by decide +kernel
theorem dX11_feed_11 : decode cX11_feed 11 = .ok (.ireturn, 1) := by decide +kernel
theorem dX11_feed_12 : decode cX11_feed 12 = .ok (.aload_n 0, 1) := by decide +kernel
theorem dX11_feed_13 : decode cX11_feed 13 = .ok (.iload_n 1, 1) := by decide +kernel
theorem dX11_feed_14 : decode cX11_feed 14 = .ok (.invokevirtual 84, 3) := by decide +kernel
theorem dX11_feed_17 : decode cX11_feed 17 = .ok (.aload_n 0, 1) := by decide +kernel
theorem dX11_feed_18 : decode cX11_feed 18 = .ok (.iload_n 2, 1) := by decide +kernel
theorem dX11_feed_19 : decode cX11_feed 19 = .ok (.invokevirtual 84, 3) := by decide +kernel
theorem dX11_feed_22 : decode cX11_feed 22 = .ok (.aload_n 0, 1) := by decide +kernel
theorem dX11_feed_23 : decode cX11_feed 23 = .ok (.iload_n 3, 1) := by decide +kernel
theorem dX11_feed_24 : decode cX11_feed 24 = .ok (.invokevirtual 84, 3) := by decide +kernel
theorem dX11_feed_27 : decode cX11_feed 27 = .ok (.aload_n 0, 1) := by decide +kernel
theorem dX11_feed_28 : decode cX11_feed 28 = .ok (.iload 4, 2) := by decide +kernel
theorem dX11_feed_30 : decode cX11_feed 30 = .ok (.invokevirtual 84, 3) := by decide +kernel
theorem dX11_feed_33 : decode cX11_feed 33 = .ok (.aload_n 0, 1) := by decide +kernel
theorem dX11_feed_34 : decode cX11_feed 34 = .ok (.iload 5, 2) := by decide +kernel
theorem dX11_feed_36 : decode cX11_feed 36 = .ok (.invokevirtual 84, 3) := by decide +kernel
theorem dX11_feed_39 : decode cX11_feed 39 = .ok (.aload_n 0, 1) := by decide +kernel
theorem dX11_feed_40 : decode cX11_feed 40 = .ok (.getfield 13, 3) := by decide +kernel
theorem dX11_feed_43 : decode cX11_feed 43 = .ok (.ireturn, 1) := by decide +kernel
theorem dX11_tapeNumber_0 : decode cX11_tapeNumber 0 = .ok (.bipush 24, 2) := by decide +kernel
theorem dX11_tapeNumber_2 : decode cX11_tapeNumber 2 = .ok (.istore_n 2, 1) := by decide +kernel
theorem dX11_tapeNumber_3 : decode cX11_tapeNumber 3 = .ok (.iload_n 2, 1) := by decide +kernel
theorem dX11_tapeNumber_4 : decode cX11_tapeNumber 4 = .ok (.ifCond .lt 51, 3) := by decide +kernel
theorem dX11_tapeNumber_7 : decode cX11_tapeNumber 7 = .ok (.aload_n 0, 1) := by decide +kernel
theorem dX11_tapeNumber_8 : decode cX11_tapeNumber 8 = .ok (.getfield 13, 3) := by decide +kernel
theorem dX11_tapeNumber_11 : decode cX11_tapeNumber 11 = .ok (.ifCond .lt 38, 3) := by decide +kernel
theorem dX11_tapeNumber_14 : decode cX11_tapeNumber 14 = .ok (.aload_n 0, 1) := by decide +kernel
theorem dX11_tapeNumber_15 : decode cX11_tapeNumber 15 = .ok (.getfield 13, 3) := by decide +kernel
theorem dX11_tapeNumber_18 : decode cX11_tapeNumber 18 = .ok (.aload_n 0, 1) := by decide +kernel
theorem dX11_tapeNumber_19 : decode cX11_tapeNumber 19 = .ok (.getfield 9, 3) := by decide +kernel
theorem dX11_tapeNumber_22 : decode cX11_tapeNumber 22 = .ok (.arraylength, 1) := by decide +kernel
theorem dX11_tapeNumber_23 : decode cX11_tapeNumber 23 = .ok (.if_icmp .ge 26, 3) := by decide +kernel
theorem dX11_tapeNumber_26 : decode cX11_tapeNumber 26 = .ok (.aload_n 0, 1) := by decide +kernel
theorem dX11_tapeNumber_27 : decode cX11_tapeNumber 27 = .ok (.getfield 9, 3) := by decide +kernel
theorem dX11_tapeNumber_30 : decode cX11_tapeNumber 30 = .ok (.aload_n 0, 1) := by decide +kernel
theorem dX11_tapeNumber_31 : decode cX11_tapeNumber 31 = .ok (.getfield 13, 3) := by decide +kernel
theorem dX11_tapeNumber_34 : decode cX11_tapeNumber 34 = .ok (.iload_n 1, 1) := by decide +kernel
theorem dX11_tapeNumber_35 : decode cX11_tapeNumber 35 = .ok (.iload_n 2, 1) := by decide +kernel
theorem dX11_tapeNumber_36 : decode cX11_tapeNumber 36 = .ok (.ishr, 1) := by decide +kernel
theorem dX11_tapeNumber_37 : decode cX11_tapeNumber 37 = .ok (.i2b, 1) := by decide +kernel
theorem dX11_tapeNumber_38 : decode cX11_tapeNumber 38 = .ok (.bastore, 1) := by decide +kernel
theorem dX11_tapeNumber_39 : decode cX11_tapeNumber 39 = .ok (.aload_n 0, 1) := by decide +kernel
theorem dX11_tapeNumber_40 : decode cX11_tapeNumber 40 = .ok (.dup, 1) := by decide +kernel
theorem dX11_tapeNumber_41 : decode cX11_tapeNumber 41 = .ok (.getfield 13, 3) := by decide +kernel
theorem dX11_tapeNumber_44 : decode cX11_tapeNumber 44 = .ok (.iconst 1, 1) := by decide +kernel
theorem dX11_tapeNumber_45 : decode cX11_tapeNumber 45 = .ok (.iadd, 1) := by decide +kernel
theorem dX11_tapeNumber_46 : decode cX11_tapeNumber 46 = .ok (.putfield 13, 3) := by decide +kernel
theorem dX11_tapeNumber_49 : decode cX11_tapeNumber 49 = .ok (.iinc 2 (-8), 3) := by decide +kernel
theorem dX11_tapeNumber_52 : decode cX11_tapeNumber 52 = .ok (.goto (-49), 3) := by decide +kernel
theorem dX11_tapeNumber_55 : decode cX11_tapeNumber 55 = .ok (.return_, 1) := by decide +kernel
theorem dX11_end_0 : decode cX11_end 0 = .ok (.iload_n 1, 1) := by decide +kernel
theorem dX11_end_1 : decode cX11_end 1 = .ok (.ifCond .lt 11, 3) := by decide +kernel
theorem dX11_end_4 : decode cX11_end 4 = .ok (.iload_n 1, 1) := by decide +kernel
theorem dX11_end_5 : decode cX11_end 5 = .ok (.aload_n 0, 1) := by decide +kernel
theorem dX11_end_6 : decode cX11_end 6 = .ok (.getfield 13, 3) := by decide +kernel
theorem dX11_end_9 : decode cX11_end 9 = .ok (.if_icmp .le 5, 3) := by decide +kernel
theorem dX11_end_12 : decode cX11_end 12 = .ok (.iconst (-1), 1) := by decide +kernel
theorem dX11_end_13 : decode cX11_end 13 = .ok (.ireturn, 1) := by decide +kernel
theorem dX11_end_14 : decode cX11_end 14 = .ok (.aload_n 0, 1) := by decide +kernel
theorem dX11_end_15 : decode cX11_end 15 = .ok (.iload_n 1, 1) := by decide +kernel
theorem dX11_end_16 : decode cX11_end 16 = .ok (.putfield 13, 3) := by decide +kernel
theorem dX11_end_19 : decode cX11_end 19 = .ok (.iload_n 1, 1) := by decide +kernel
theorem dX11_end_20 : decode cX11_end 20 = .ok (.ireturn, 1) := by decide +kernel
theorem dX11_land_0 : decode cX11_land 0 = .ok (.aload_n 0, 1) := by decide +kernel
theorem dX11_land_1 : decode cX11_land 1 = .ok (.getfield 13, 3) := by decide +kernel
theorem dX11_land_4 : decode cX11_land 4 = .ok (.istore_n 1, 1) := by decide +kernel
theorem dX11_land_5 : decode cX11_land 5 = .ok (.aload_n 0, 1) := by decide +kernel
theorem dX11_land_6 : decode cX11_land 6 = .ok (.iconst 0, 1) := by decide +kernel
theorem dX11_land_7 : decode cX11_land 7 = .ok (.putfield 13, 3) := by decide +kernel
theorem dX11_land_10 : decode cX11_land 10 = .ok (.aload_n 0, 1) := by decide +kernel
theorem dX11_land_11 : decode cX11_land 11 = .ok (.getfield 37, 3) := by decide +kernel
theorem dX11_land_14 : decode cX11_land 14 = .ok (.aload_n 0, 1) := by decide +kernel
theorem dX11_land_15 : decode cX11_land 15 = .ok (.getfield 24, 3) := by decide +kernel
theorem dX11_land_18 : decode cX11_land 18 = .ok (.iload_n 1, 1) := by decide +kernel
theorem dX11_land_19 : decode cX11_land 19 = .ok (.invokevirtual 88, 3) := by decide +kernel
theorem dX11_land_22 : decode cX11_land 22 = .ok (.ifCond .ne 5, 3) := by decide +kernel
theorem dX11_land_25 : decode cX11_land 25 = .ok (.iconst (-1), 1) := by decide +kernel
theorem dX11_land_26 : decode cX11_land 26 = .ok (.ireturn, 1) := by decide +kernel
theorem dX11_land_27 : decode cX11_land 27 = .ok (.aload_n 0, 1) := by decide +kernel
theorem dX11_land_28 : decode cX11_land 28 = .ok (.getfield 37, 3) := by decide +kernel
theorem dX11_land_31 : decode cX11_land 31 = .ok (.aload_n 0, 1) := by decide +kernel
theorem dX11_land_32 : decode cX11_land 32 = .ok (.getfield 20, 3) := by decide +kernel
theorem dX11_land_35 : decode cX11_land 35 = .ok (.iload_n 1, 1) := by decide +kernel
theorem dX11_land_36 : decode cX11_land 36 = .ok (.invokevirtual 88, 3) := by decide +kernel
theorem dX11_land_39 : decode cX11_land 39 = .ok (.pop, 1) := by decide +kernel
theorem dX11_land_40 : decode cX11_land 40 = .ok (.aload_n 0, 1) := by decide +kernel
theorem dX11_land_41 : decode cX11_land 41 = .ok (.getfield 46, 3) := by decide +kernel
theorem dX11_land_44 : decode cX11_land 44 = .ok (.invokevirtual 92, 3) := by decide +kernel
theorem dX11_land_47 : decode cX11_land 47 = .ok (.aload_n 0, 1) := by decide +kernel
theorem dX11_land_48 : decode cX11_land 48 = .ok (.getfield 53, 3) := by decide +kernel
theorem dX11_land_51 : decode cX11_land 51 = .ok (.iconst (-1), 1) := by decide +kernel
theorem dX11_land_52 : decode cX11_land 52 = .ok (.invokevirtual 95, 3) := by decide +kernel
theorem dX11_land_55 : decode cX11_land 55 = .ok (.aload_n 0, 1) := by decide +kernel
theorem dX11_land_56 : decode cX11_land 56 = .ok (.getfield 73, 3) := by decide +kernel
theorem dX11_land_59 : decode cX11_land 59 = .ok (.invokevirtual 98, 3) := by decide +kernel
theorem dX11_land_62 : decode cX11_land 62 = .ok (.aload_n 0, 1) := by decide +kernel
theorem dX11_land_63 : decode cX11_land 63 = .ok (.getfield 80, 3) := by decide +kernel
theorem dX11_land_66 : decode cX11_land 66 = .ok (.invokevirtual 101, 3) := by decide +kernel
theorem dX11_land_69 : decode cX11_land 69 = .ok (.aload_n 0, 1) := by decide +kernel
theorem dX11_land_70 : decode cX11_land 70 = .ok (.getfield 20, 3) := by decide +kernel
theorem dX11_land_73 : decode cX11_land 73 = .ok (.getfield 104, 3) := by decide +kernel
theorem dX11_land_76 : decode cX11_land 76 = .ok (.ireturn, 1) := by decide +kernel
theorem dX11_fault_0 : decode cX11_fault 0 = .ok (.iload_n 1, 1) := by decide +kernel
theorem dX11_fault_1 : decode cX11_fault 1 = .ok (.ifCond .ne 11, 3) := by decide +kernel
theorem dX11_fault_4 : decode cX11_fault 4 = .ok (.aload_n 0, 1) := by decide +kernel
theorem dX11_fault_5 : decode cX11_fault 5 = .ok (.getfield 37, 3) := by decide +kernel
theorem dX11_fault_8 : decode cX11_fault 8 = .ok (.getfield 107, 3) := by decide +kernel
theorem dX11_fault_11 : decode cX11_fault 11 = .ok (.ireturn, 1) := by decide +kernel
theorem dX11_fault_12 : decode cX11_fault 12 = .ok (.iload_n 1, 1) := by decide +kernel
theorem dX11_fault_13 : decode cX11_fault 13 = .ok (.iconst 1, 1) := by decide +kernel
theorem dX11_fault_14 : decode cX11_fault 14 = .ok (.if_icmp .ne 13, 3) := by decide +kernel
theorem dX11_fault_17 : decode cX11_fault 17 = .ok (.aload_n 0, 1) := by decide +kernel
theorem dX11_fault_18 : decode cX11_fault 18 = .ok (.getfield 37, 3) := by decide +kernel
theorem dX11_fault_21 : decode cX11_fault 21 = .ok (.getfield 110, 3) := by decide +kernel
theorem dX11_fault_24 : decode cX11_fault 24 = .ok (.goto 4, 3) := by decide +kernel
theorem dX11_fault_27 : decode cX11_fault 27 = .ok (.iconst (-1), 1) := by decide +kernel
theorem dX11_fault_28 : decode cX11_fault 28 = .ok (.ireturn, 1) := by decide +kernel
theorem dX11_soul_0 : decode cX11_soul 0 = .ok (.aload_n 0, 1) := by decide +kernel
theorem dX11_soul_1 : decode cX11_soul 1 = .ok (.getfield 20, 3) := by decide +kernel
theorem dX11_soul_4 : decode cX11_soul 4 = .ok (.iload_n 1, 1) := by decide +kernel
theorem dX11_soul_5 : decode cX11_soul 5 = .ok (.invokevirtual 113, 3) := by decide +kernel
theorem dX11_soul_8 : decode cX11_soul 8 = .ok (.ifCond .eq 12, 3) := by decide +kernel
theorem dX11_soul_11 : decode cX11_soul 11 = .ok (.iload_n 2, 1) := by decide +kernel
theorem dX11_soul_12 : decode cX11_soul 12 = .ok (.ifCond .lt 8, 3) := by decide +kernel
theorem dX11_soul_15 : decode cX11_soul 15 = .ok (.iload_n 2, 1) := by decide +kernel
theorem dX11_soul_16 : decode cX11_soul 16 = .ok (.iconst 1, 1) := by decide +kernel
theorem dX11_soul_17 : decode cX11_soul 17 = .ok (.if_icmp .le 5, 3) := by decide +kernel
theorem dX11_soul_20 : decode cX11_soul 20 = .ok (.iconst (-1), 1) := by decide +kernel
theorem dX11_soul_21 : decode cX11_soul 21 = .ok (.ireturn, 1) := by decide +kernel
theorem dX11_soul_22 : decode cX11_soul 22 = .ok (.aload_n 0, 1) := by decide +kernel
theorem dX11_soul_23 : decode cX11_soul 23 = .ok (.getfield 46, 3) := by decide +kernel
theorem dX11_soul_26 : decode cX11_soul 26 = .ok (.getfield 66, 3) := by decide +kernel
theorem dX11_soul_29 : decode cX11_soul 29 = .ok (.iconst 2, 1) := by decide +kernel
theorem dX11_soul_30 : decode cX11_soul 30 = .ok (.iload_n 1, 1) := by decide +kernel
theorem dX11_soul_31 : decode cX11_soul 31 = .ok (.imul, 1) := by decide +kernel
theorem dX11_soul_32 : decode cX11_soul 32 = .ok (.iload_n 2, 1) := by decide +kernel
theorem dX11_soul_33 : decode cX11_soul 33 = .ok (.iadd, 1) := by decide +kernel
theorem dX11_soul_34 : decode cX11_soul 34 = .ok (.iaload, 1) := by decide +kernel
theorem dX11_soul_35 : decode cX11_soul 35 = .ok (.ireturn, 1) := by decide +kernel
theorem dX11_way_0 : decode cX11_way 0 = .ok (.aload_n 0, 1) := by decide +kernel
theorem dX11_way_1 : decode cX11_way 1 = .ok (.getfield 20, 3) := by decide +kernel
theorem dX11_way_4 : decode cX11_way 4 = .ok (.iload_n 1, 1) := by decide +kernel
theorem dX11_way_5 : decode cX11_way 5 = .ok (.invokevirtual 117, 3) := by decide +kernel
theorem dX11_way_8 : decode cX11_way 8 = .ok (.ifCond .ne 5, 3) := by decide +kernel
theorem dX11_way_11 : decode cX11_way 11 = .ok (.iconst (-1), 1) := by decide +kernel
theorem dX11_way_12 : decode cX11_way 12 = .ok (.ireturn, 1) := by decide +kernel
theorem dX11_way_13 : decode cX11_way 13 = .ok (.iload_n 2, 1) := by decide +kernel
theorem dX11_way_14 : decode cX11_way 14 = .ok (.tableswitch 56 0 2 #[26, 36, 46], 26) := by decide +kernel
theorem dX11_way_40 : decode cX11_way 40 = .ok (.aload_n 0, 1) := by decide +kernel
theorem dX11_way_41 : decode cX11_way 41 = .ok (.getfield 20, 3) := by decide +kernel
theorem dX11_way_44 : decode cX11_way 44 = .ok (.getfield 120, 3) := by decide +kernel
theorem dX11_way_47 : decode cX11_way 47 = .ok (.iload_n 1, 1) := by decide +kernel
theorem dX11_way_48 : decode cX11_way 48 = .ok (.iaload, 1) := by decide +kernel
theorem dX11_way_49 : decode cX11_way 49 = .ok (.ireturn, 1) := by decide +kernel
theorem dX11_way_50 : decode cX11_way 50 = .ok (.aload_n 0, 1) := by decide +kernel
theorem dX11_way_51 : decode cX11_way 51 = .ok (.getfield 20, 3) := by decide +kernel
theorem dX11_way_54 : decode cX11_way 54 = .ok (.getfield 123, 3) := by decide +kernel
theorem dX11_way_57 : decode cX11_way 57 = .ok (.iload_n 1, 1) := by decide +kernel
theorem dX11_way_58 : decode cX11_way 58 = .ok (.iaload, 1) := by decide +kernel
theorem dX11_way_59 : decode cX11_way 59 = .ok (.ireturn, 1) := by decide +kernel
theorem dX11_way_60 : decode cX11_way 60 = .ok (.aload_n 0, 1) := by decide +kernel
theorem dX11_way_61 : decode cX11_way 61 = .ok (.getfield 20, 3) := by decide +kernel
theorem dX11_way_64 : decode cX11_way 64 = .ok (.getfield 126, 3) := by decide +kernel
theorem dX11_way_67 : decode cX11_way 67 = .ok (.iload_n 1, 1) := by decide +kernel
theorem dX11_way_68 : decode cX11_way 68 = .ok (.iaload, 1) := by decide +kernel
theorem dX11_way_69 : decode cX11_way 69 = .ok (.ireturn, 1) := by decide +kernel
theorem dX11_way_70 : decode cX11_way 70 = .ok (.iconst (-1), 1) := by decide +kernel
theorem dX11_way_71 : decode cX11_way 71 = .ok (.ireturn, 1) := by decide +kernel
theorem dX11_quarrel_0 : decode cX11_quarrel 0 = .ok (.aload_n 0, 1) := by decide +kernel
theorem dX11_quarrel_1 : decode cX11_quarrel 1 = .ok (.getfield 20, 3) := by decide +kernel
theorem dX11_quarrel_4 : decode cX11_quarrel 4 = .ok (.iload_n 1, 1) := by decide +kernel
theorem dX11_quarrel_5 : decode cX11_quarrel 5 = .ok (.iload_n 2, 1) := by decide +kernel
theorem dX11_quarrel_6 : decode cX11_quarrel 6 = .ok (.iload_n 3, 1) := by decide +kernel
theorem dX11_quarrel_7 : decode cX11_quarrel 7 = .ok (.invokevirtual 129, 3) := by decide +kernel
theorem dX11_quarrel_10 : decode cX11_quarrel 10 = .ok (.istore 4, 2) := by decide +kernel
theorem dX11_quarrel_12 : decode cX11_quarrel 12 = .ok (.iload 4, 2) := by decide +kernel
theorem dX11_quarrel_14 : decode cX11_quarrel 14 = .ok (.iconst (-1), 1) := by decide +kernel
theorem dX11_quarrel_15 : decode cX11_quarrel 15 = .ok (.if_icmp .ne 6, 3) := by decide +kernel
theorem dX11_quarrel_18 : decode cX11_quarrel 18 = .ok (.bipush (-2), 2) := by decide +kernel
theorem dX11_quarrel_20 : decode cX11_quarrel 20 = .ok (.ireturn, 1) := by decide +kernel
theorem dX11_quarrel_21 : decode cX11_quarrel 21 = .ok (.aload_n 0, 1) := by decide +kernel
theorem dX11_quarrel_22 : decode cX11_quarrel 22 = .ok (.getfield 60, 3) := by decide +kernel
theorem dX11_quarrel_25 : decode cX11_quarrel 25 = .ok (.getfield 133, 3) := by decide +kernel
theorem dX11_quarrel_28 : decode cX11_quarrel 28 = .ok (.iload 4, 2) := by decide +kernel
theorem dX11_quarrel_30 : decode cX11_quarrel 30 = .ok (.invokevirtual 137, 3) := by decide +kernel
theorem dX11_quarrel_33 : decode cX11_quarrel 33 = .ok (.aload_n 0, 1) := by decide +kernel
theorem dX11_quarrel_34 : decode cX11_quarrel 34 = .ok (.getfield 60, 3) := by decide +kernel
theorem dX11_quarrel_37 : decode cX11_quarrel 37 = .ok (.getfield 133, 3) := by decide +kernel
theorem dX11_quarrel_40 : decode cX11_quarrel 40 = .ok (.aload_n 0, 1) := by decide +kernel
theorem dX11_quarrel_41 : decode cX11_quarrel 41 = .ok (.getfield 46, 3) := by decide +kernel
theorem dX11_quarrel_44 : decode cX11_quarrel 44 = .ok (.getfield 66, 3) := by decide +kernel
theorem dX11_quarrel_47 : decode cX11_quarrel 47 = .ok (.sipush 200, 3) := by decide +kernel
theorem dX11_quarrel_50 : decode cX11_quarrel 50 = .ok (.invokevirtual 142, 3) := by decide +kernel
theorem dX11_quarrel_53 : decode cX11_quarrel 53 = .ok (.ireturn, 1) := by decide +kernel
theorem dX11_heat_0 : decode cX11_heat 0 = .ok (.aload_n 0, 1) := by decide +kernel
theorem dX11_heat_1 : decode cX11_heat 1 = .ok (.getfield 20, 3) := by decide +kernel
theorem dX11_heat_4 : decode cX11_heat 4 = .ok (.iload_n 1, 1) := by decide +kernel
theorem dX11_heat_5 : decode cX11_heat 5 = .ok (.iload_n 2, 1) := by decide +kernel
theorem dX11_heat_6 : decode cX11_heat 6 = .ok (.iload_n 3, 1) := by decide +kernel
theorem dX11_heat_7 : decode cX11_heat 7 = .ok (.invokevirtual 129, 3) := by decide +kernel
theorem dX11_heat_10 : decode cX11_heat 10 = .ok (.istore 5, 2) := by decide +kernel
theorem dX11_heat_12 : decode cX11_heat 12 = .ok (.iload 5, 2) := by decide +kernel
theorem dX11_heat_14 : decode cX11_heat 14 = .ok (.iconst (-1), 1) := by decide +kernel
theorem dX11_heat_15 : decode cX11_heat 15 = .ok (.if_icmp .eq 16, 3) := by decide +kernel
theorem dX11_heat_18 : decode cX11_heat 18 = .ok (.iload 4, 2) := by decide +kernel
theorem dX11_heat_20 : decode cX11_heat 20 = .ok (.ifCond .lt 11, 3) := by decide +kernel
theorem dX11_heat_23 : decode cX11_heat 23 = .ok (.iload 4, 2) := by decide +kernel
theorem dX11_heat_25 : decode cX11_heat 25 = .ok (.sipush 200, 3) := by decide +kernel
theorem dX11_heat_28 : decode cX11_heat 28 = .ok (.if_icmp .le 6, 3) := by decide +kernel
theorem dX11_heat_31 : decode cX11_heat 31 = .ok (.bipush (-2), 2) := by decide +kernel
theorem dX11_heat_33 : decode cX11_heat 33 = .ok (.ireturn, 1) := by decide +kernel
theorem dX11_heat_34 : decode cX11_heat 34 = .ok (.aload_n 0, 1) := by decide +kernel
theorem dX11_heat_35 : decode cX11_heat 35 = .ok (.getfield 60, 3) := by decide +kernel
theorem dX11_heat_38 : decode cX11_heat 38 = .ok (.getfield 133, 3) := by decide +kernel
theorem dX11_heat_41 : decode cX11_heat 41 = .ok (.iload 5, 2) := by decide +kernel
theorem dX11_heat_43 : decode cX11_heat 43 = .ok (.invokevirtual 137, 3) := by decide +kernel
theorem dX11_heat_46 : decode cX11_heat 46 = .ok (.aload_n 0, 1) := by decide +kernel
theorem dX11_heat_47 : decode cX11_heat 47 = .ok (.getfield 60, 3) := by decide +kernel
theorem dX11_heat_50 : decode cX11_heat 50 = .ok (.getfield 133, 3) := by decide +kernel
theorem dX11_heat_53 : decode cX11_heat 53 = .ok (.aload_n 0, 1) := by decide +kernel
theorem dX11_heat_54 : decode cX11_heat 54 = .ok (.getfield 46, 3) := by decide +kernel
theorem dX11_heat_57 : decode cX11_heat 57 = .ok (.getfield 66, 3) := by decide +kernel
theorem dX11_heat_60 : decode cX11_heat 60 = .ok (.iload 4, 2) := by decide +kernel
theorem dX11_heat_62 : decode cX11_heat 62 = .ok (.invokevirtual 142, 3) := by decide +kernel
theorem dX11_heat_65 : decode cX11_heat 65 = .ok (.pop, 1) := by decide +kernel
theorem dX11_heat_66 : decode cX11_heat 66 = .ok (.aload_n 0, 1) := by decide +kernel
theorem dX11_heat_67 : decode cX11_heat 67 = .ok (.getfield 60, 3) := by decide +kernel
theorem dX11_heat_70 : decode cX11_heat 70 = .ok (.getfield 133, 3) := by decide +kernel
theorem dX11_heat_73 : decode cX11_heat 73 = .ok (.getfield 146, 3) := by decide +kernel
theorem dX11_heat_76 : decode cX11_heat 76 = .ok (.ireturn, 1) := by decide +kernel
theorem dX11_setOut_0 : decode cX11_setOut 0 = .ok (.aload_n 0, 1) := by decide +kernel
theorem dX11_setOut_1 : decode cX11_setOut 1 = .ok (.getfield 20, 3) := by decide +kernel
theorem dX11_setOut_4 : decode cX11_setOut 4 = .ok (.iload_n 1, 1) := by decide +kernel
theorem dX11_setOut_5 : decode cX11_setOut 5 = .ok (.iload_n 2, 1) := by decide +kernel
theorem dX11_setOut_6 : decode cX11_setOut 6 = .ok (.iload_n 3, 1) := by decide +kernel
theorem dX11_setOut_7 : decode cX11_setOut 7 = .ok (.invokevirtual 129, 3) := by decide +kernel
theorem dX11_setOut_10 : decode cX11_setOut 10 = .ok (.istore 5, 2) := by decide +kernel
theorem dX11_setOut_12 : decode cX11_setOut 12 = .ok (.iload 5, 2) := by decide +kernel
theorem dX11_setOut_14 : decode cX11_setOut 14 = .ok (.iconst (-1), 1) := by decide +kernel
theorem dX11_setOut_15 : decode cX11_setOut 15 = .ok (.if_icmp .eq 15, 3) := by decide +kernel
theorem dX11_setOut_18 : decode cX11_setOut 18 = .ok (.aload_n 0, 1) := by decide +kernel
theorem dX11_setOut_19 : decode cX11_setOut 19 = .ok (.getfield 20, 3) := by decide +kernel
theorem dX11_setOut_22 : decode cX11_setOut 22 = .ok (.iload 4, 2) := by decide +kernel
theorem dX11_setOut_24 : decode cX11_setOut 24 = .ok (.invokevirtual 149, 3) := by decide +kernel
theorem dX11_setOut_27 : decode cX11_setOut 27 = .ok (.ifCond .ne 5, 3) := by decide +kernel
theorem dX11_setOut_30 : decode cX11_setOut 30 = .ok (.iconst (-1), 1) := by decide +kernel
theorem dX11_setOut_31 : decode cX11_setOut 31 = .ok (.ireturn, 1) := by decide +kernel
theorem dX11_setOut_32 : decode cX11_setOut 32 = .ok (.aload_n 0, 1) := by decide +kernel
theorem dX11_setOut_33 : decode cX11_setOut 33 = .ok (.getfield 46, 3) := by decide +kernel
theorem dX11_setOut_36 : decode cX11_setOut 36 = .ok (.iload 5, 2) := by decide +kernel
theorem dX11_setOut_38 : decode cX11_setOut 38 = .ok (.iload 4, 2) := by decide +kernel
theorem dX11_setOut_40 : decode cX11_setOut 40 = .ok (.invokevirtual 152, 3) := by decide +kernel
theorem dX11_setOut_43 : decode cX11_setOut 43 = .ok (.iconst 1, 1) := by decide +kernel
theorem dX11_setOut_44 : decode cX11_setOut 44 = .ok (.ireturn, 1) := by decide +kernel
theorem dX11_take_0 : decode cX11_take 0 = .ok (.aload_n 0, 1) := by decide +kernel
theorem dX11_take_1 : decode cX11_take 1 = .ok (.getfield 46, 3) := by decide +kernel
theorem dX11_take_4 : decode cX11_take 4 = .ok (.iload_n 1, 1) := by decide +kernel
theorem dX11_take_5 : decode cX11_take 5 = .ok (.invokevirtual 156, 3) := by decide +kernel
theorem dX11_take_8 : decode cX11_take 8 = .ok (.ireturn, 1) := by decide +kernel
theorem dX11_words_0 : decode cX11_words 0 = .ok (.iload_n 1, 1) := by decide +kernel
theorem dX11_words_1 : decode cX11_words 1 = .ok (.ifCond .lt 9, 3) := by decide +kernel
theorem dX11_words_4 : decode cX11_words 4 = .ok (.iload_n 1, 1) := by decide +kernel
theorem dX11_words_5 : decode cX11_words 5 = .ok (.bipush 60, 2) := by decide +kernel
theorem dX11_words_7 : decode cX11_words 7 = .ok (.if_icmp .le 5, 3) := by decide +kernel
theorem dX11_words_10 : decode cX11_words 10 = .ok (.iconst (-1), 1) := by decide +kernel
theorem dX11_words_11 : decode cX11_words 11 = .ok (.ireturn, 1) := by decide +kernel
theorem dX11_words_12 : decode cX11_words 12 = .ok (.aload_n 0, 1) := by decide +kernel
theorem dX11_words_13 : decode cX11_words 13 = .ok (.getfield 46, 3) := by decide +kernel
theorem dX11_words_16 : decode cX11_words 16 = .ok (.iload_n 1, 1) := by decide +kernel
theorem dX11_words_17 : decode cX11_words 17 = .ok (.invokevirtual 160, 3) := by decide +kernel
theorem dX11_words_20 : decode cX11_words 20 = .ok (.ireturn, 1) := by decide +kernel
theorem dX11_year_0 : decode cX11_year 0 = .ok (.aload_n 0, 1) := by decide +kernel
theorem dX11_year_1 : decode cX11_year 1 = .ok (.getfield 46, 3) := by decide +kernel
theorem dX11_year_4 : decode cX11_year 4 = .ok (.invokevirtual 163, 3) := by decide +kernel
theorem dX11_year_7 : decode cX11_year 7 = .ok (.ireturn, 1) := by decide +kernel
theorem dX11_walk_0 : decode cX11_walk 0 = .ok (.aload_n 0, 1) := by decide +kernel
theorem dX11_walk_1 : decode cX11_walk 1 = .ok (.getfield 46, 3) := by decide +kernel
theorem dX11_walk_4 : decode cX11_walk 4 = .ok (.iload_n 1, 1) := by decide +kernel
theorem dX11_walk_5 : decode cX11_walk 5 = .ok (.invokevirtual 167, 3) := by decide +kernel
theorem dX11_walk_8 : decode cX11_walk 8 = .ok (.ireturn, 1) := by decide +kernel
theorem dX11_undo_0 : decode cX11_undo 0 = .ok (.aload_n 0, 1) := by decide +kernel
theorem dX11_undo_1 : decode cX11_undo 1 = .ok (.getfield 46, 3) := by decide +kernel
theorem dX11_undo_4 : decode cX11_undo 4 = .ok (.invokevirtual 170, 3) := by decide +kernel
theorem dX11_undo_7 : decode cX11_undo 7 = .ok (.ireturn, 1) := by decide +kernel
theorem dX11_redo_0 : decode cX11_redo 0 = .ok (.aload_n 0, 1) := by decide +kernel
theorem dX11_redo_1 : decode cX11_redo 1 = .ok (.getfield 46, 3) := by decide +kernel
theorem dX11_redo_4 : decode cX11_redo 4 = .ok (.invokevirtual 174, 3) := by decide +kernel
theorem dX11_redo_7 : decode cX11_redo 7 = .ok (.ireturn, 1) := by decide +kernel
theorem dX11_start_0 : decode cX11_start 0 = .ok (.aload_n 0, 1) := by decide +kernel
theorem dX11_start_1 : decode cX11_start 1 = .ok (.getfield 20, 3) := by decide +kernel
theorem dX11_start_4 : decode cX11_start 4 = .ok (.iload_n 1, 1) := by decide +kernel
theorem dX11_start_5 : decode cX11_start 5 = .ok (.invokevirtual 149, 3) := by decide +kernel
theorem dX11_start_8 : decode cX11_start 8 = .ok (.ifCond .ne 5, 3) := by decide +kernel
theorem dX11_start_11 : decode cX11_start 11 = .ok (.iconst (-1), 1) := by decide +kernel
theorem dX11_start_12 : decode cX11_start 12 = .ok (.ireturn, 1) := by decide +kernel
theorem dX11_start_13 : decode cX11_start 13 = .ok (.aload_n 0, 1) := by decide +kernel
theorem dX11_start_14 : decode cX11_start 14 = .ok (.getfield 53, 3) := by decide +kernel
theorem dX11_start_17 : decode cX11_start 17 = .ok (.iload_n 1, 1) := by decide +kernel
theorem dX11_start_18 : decode cX11_start 18 = .ok (.invokevirtual 95, 3) := by decide +kernel
theorem dX11_start_21 : decode cX11_start 21 = .ok (.iconst 1, 1) := by decide +kernel
theorem dX11_start_22 : decode cX11_start 22 = .ok (.ireturn, 1) := by decide +kernel
theorem dX11_step_0 : decode cX11_step 0 = .ok (.aload_n 0, 1) := by decide +kernel
theorem dX11_step_1 : decode cX11_step 1 = .ok (.getfield 53, 3) := by decide +kernel
theorem dX11_step_4 : decode cX11_step 4 = .ok (.aload_n 0, 1) := by decide +kernel
theorem dX11_step_5 : decode cX11_step 5 = .ok (.getfield 20, 3) := by decide +kernel
theorem dX11_step_8 : decode cX11_step 8 = .ok (.iload_n 1, 1) := by decide +kernel
theorem dX11_step_9 : decode cX11_step 9 = .ok (.invokevirtual 177, 3) := by decide +kernel
theorem dX11_step_12 : decode cX11_step 12 = .ok (.ifCond .eq 13, 3) := by decide +kernel
theorem dX11_step_15 : decode cX11_step 15 = .ok (.aload_n 0, 1) := by decide +kernel
theorem dX11_step_16 : decode cX11_step 16 = .ok (.getfield 53, 3) := by decide +kernel
theorem dX11_step_19 : decode cX11_step 19 = .ok (.getfield 180, 3) := by decide +kernel
theorem dX11_step_22 : decode cX11_step 22 = .ok (.goto 4, 3) := by decide +kernel
theorem dX11_step_25 : decode cX11_step 25 = .ok (.iconst (-1), 1) := by decide +kernel
theorem dX11_step_26 : decode cX11_step 26 = .ok (.ireturn, 1) := by decide +kernel
theorem dX11_walked_0 : decode cX11_walked 0 = .ok (.aload_n 0, 1) := by decide +kernel
theorem dX11_walked_1 : decode cX11_walked 1 = .ok (.getfield 20, 3) := by decide +kernel
theorem dX11_walked_4 : decode cX11_walked 4 = .ok (.iload_n 1, 1) := by decide +kernel
theorem dX11_walked_5 : decode cX11_walked 5 = .ok (.iload_n 2, 1) := by decide +kernel
theorem dX11_walked_6 : decode cX11_walked 6 = .ok (.iload_n 3, 1) := by decide +kernel
theorem dX11_walked_7 : decode cX11_walked 7 = .ok (.invokevirtual 129, 3) := by decide +kernel
theorem dX11_walked_10 : decode cX11_walked 10 = .ok (.istore 5, 2) := by decide +kernel
theorem dX11_walked_12 : decode cX11_walked 12 = .ok (.iload 5, 2) := by decide +kernel
theorem dX11_walked_14 : decode cX11_walked 14 = .ok (.iconst (-1), 1) := by decide +kernel
theorem dX11_walked_15 : decode cX11_walked 15 = .ok (.if_icmp .eq 25, 3) := by decide +kernel
theorem dX11_walked_18 : decode cX11_walked 18 = .ok (.aload_n 0, 1) := by decide +kernel
theorem dX11_walked_19 : decode cX11_walked 19 = .ok (.getfield 53, 3) := by decide +kernel
theorem dX11_walked_22 : decode cX11_walked 22 = .ok (.getfield 183, 3) := by decide +kernel
theorem dX11_walked_25 : decode cX11_walked 25 = .ok (.iconst (-1), 1) := by decide +kernel
theorem dX11_walked_26 : decode cX11_walked 26 = .ok (.if_icmp .eq 14, 3) := by decide +kernel
theorem dX11_walked_29 : decode cX11_walked 29 = .ok (.iload 4, 2) := by decide +kernel
theorem dX11_walked_31 : decode cX11_walked 31 = .ok (.ifCond .lt 9, 3) := by decide +kernel
theorem dX11_walked_34 : decode cX11_walked 34 = .ok (.iload 4, 2) := by decide +kernel
theorem dX11_walked_36 : decode cX11_walked 36 = .ok (.iconst 3, 1) := by decide +kernel
theorem dX11_walked_37 : decode cX11_walked 37 = .ok (.if_icmp .le 6, 3) := by decide +kernel
theorem dX11_walked_40 : decode cX11_walked 40 = .ok (.bipush (-2), 2) := by decide +kernel
theorem dX11_walked_42 : decode cX11_walked 42 = .ok (.ireturn, 1) := by decide +kernel
theorem dX11_walked_43 : decode cX11_walked 43 = .ok (.aload_n 0, 1) := by decide +kernel
theorem dX11_walked_44 : decode cX11_walked 44 = .ok (.getfield 60, 3) := by decide +kernel
theorem dX11_walked_47 : decode cX11_walked 47 = .ok (.iload 5, 2) := by decide +kernel
theorem dX11_walked_49 : decode cX11_walked 49 = .ok (.invokevirtual 186, 3) := by decide +kernel
theorem dX11_walked_52 : decode cX11_walked 52 = .ok (.aload_n 0, 1) := by decide +kernel
theorem dX11_walked_53 : decode cX11_walked 53 = .ok (.getfield 60, 3) := by decide +kernel
theorem dX11_walked_56 : decode cX11_walked 56 = .ok (.aload_n 0, 1) := by decide +kernel
theorem dX11_walked_57 : decode cX11_walked 57 = .ok (.getfield 46, 3) := by decide +kernel
theorem dX11_walked_60 : decode cX11_walked 60 = .ok (.getfield 66, 3) := by decide +kernel
theorem dX11_walked_63 : decode cX11_walked 63 = .ok (.aload_n 0, 1) := by decide +kernel
theorem dX11_walked_64 : decode cX11_walked 64 = .ok (.getfield 53, 3) := by decide +kernel
theorem dX11_walked_67 : decode cX11_walked 67 = .ok (.invokevirtual 187, 3) := by decide +kernel
theorem dX11_walked_70 : decode cX11_walked 70 = .ok (.istore 6, 2) := by decide +kernel
theorem dX11_walked_72 : decode cX11_walked 72 = .ok (.iload 4, 2) := by decide +kernel
theorem dX11_walked_74 : decode cX11_walked 74 = .ok (.iconst 3, 1) := by decide +kernel
theorem dX11_walked_75 : decode cX11_walked 75 = .ok (.if_icmp .ne 14, 3) := by decide +kernel
theorem dX11_walked_78 : decode cX11_walked 78 = .ok (.aload_n 0, 1) := by decide +kernel
theorem dX11_walked_79 : decode cX11_walked 79 = .ok (.getfield 60, 3) := by decide +kernel
theorem dX11_walked_82 : decode cX11_walked 82 = .ok (.getfield 133, 3) := by decide +kernel
theorem dX11_walked_85 : decode cX11_walked 85 = .ok (.getfield 146, 3) := by decide +kernel
theorem dX11_walked_88 : decode cX11_walked 88 = .ok (.ireturn, 1) := by decide +kernel
theorem dX11_walked_89 : decode cX11_walked 89 = .ok (.iload 6, 2) := by decide +kernel
theorem dX11_walked_91 : decode cX11_walked 91 = .ok (.ifCond .ne 5, 3) := by decide +kernel
theorem dX11_walked_94 : decode cX11_walked 94 = .ok (.iconst (-1), 1) := by decide +kernel
theorem dX11_walked_95 : decode cX11_walked 95 = .ok (.ireturn, 1) := by decide +kernel
theorem dX11_walked_96 : decode cX11_walked 96 = .ok (.iload 4, 2) := by decide +kernel
theorem dX11_walked_98 : decode cX11_walked 98 = .ok (.ifCond .ne 14, 3) := by decide +kernel
theorem dX11_walked_101 : decode cX11_walked 101 = .ok (.aload_n 0, 1) := by decide +kernel
theorem dX11_walked_102 : decode cX11_walked 102 = .ok (.getfield 60, 3) := by decide +kernel
theorem dX11_walked_105 : decode cX11_walked 105 = .ok (.getfield 133, 3) := by decide +kernel
theorem dX11_walked_108 : decode cX11_walked 108 = .ok (.getfield 191, 3) := by decide +kernel
theorem dX11_walked_111 : decode cX11_walked 111 = .ok (.ireturn, 1) := by decide +kernel
theorem dX11_walked_112 : decode cX11_walked 112 = .ok (.iload 4, 2) := by decide +kernel
theorem dX11_walked_114 : decode cX11_walked 114 = .ok (.iconst 1, 1) := by decide +kernel
theorem dX11_walked_115 : decode cX11_walked 115 = .ok (.if_icmp .ne 13, 3) := by decide +kernel
theorem dX11_walked_118 : decode cX11_walked 118 = .ok (.aload_n 0, 1) := by decide +kernel
theorem dX11_walked_119 : decode cX11_walked 119 = .ok (.getfield 60, 3) := by decide +kernel
theorem dX11_walked_122 : decode cX11_walked 122 = .ok (.getfield 194, 3) := by decide +kernel
theorem dX11_walked_125 : decode cX11_walked 125 = .ok (.goto 10, 3) := by decide +kernel
theorem dX11_walked_128 : decode cX11_walked 128 = .ok (.aload_n 0, 1) := by decide +kernel
theorem dX11_walked_129 : decode cX11_walked 129 = .ok (.getfield 60, 3) := by decide +kernel
theorem dX11_walked_132 : decode cX11_walked 132 = .ok (.getfield 197, 3) := by decide +kernel
theorem dX11_walked_135 : decode cX11_walked 135 = .ok (.ireturn, 1) := by decide +kernel
theorem dX11_shortest_0 : decode cX11_shortest 0 = .ok (.aload_n 0, 1) := by decide +kernel
theorem dX11_shortest_1 : decode cX11_shortest 1 = .ok (.getfield 73, 3) := by decide +kernel
theorem dX11_shortest_4 : decode cX11_shortest 4 = .ok (.iload_n 1, 1) := by decide +kernel
theorem dX11_shortest_5 : decode cX11_shortest 5 = .ok (.iload_n 2, 1) := by decide +kernel
theorem dX11_shortest_6 : decode cX11_shortest 6 = .ok (.invokevirtual 200, 3) := by decide +kernel
theorem dX11_shortest_9 : decode cX11_shortest 9 = .ok (.ireturn, 1) := by decide +kernel
theorem dX11_send_0 : decode cX11_send 0 = .ok (.aload_n 0, 1) := by decide +kernel
theorem dX11_send_1 : decode cX11_send 1 = .ok (.getfield 73, 3) := by decide +kernel
theorem dX11_send_4 : decode cX11_send 4 = .ok (.iload_n 1, 1) := by decide +kernel
theorem dX11_send_5 : decode cX11_send 5 = .ok (.iload_n 2, 1) := by decide +kernel
theorem dX11_send_6 : decode cX11_send 6 = .ok (.invokevirtual 204, 3) := by decide +kernel
theorem dX11_send_9 : decode cX11_send 9 = .ok (.ireturn, 1) := by decide +kernel
theorem dX11_measure_0 : decode cX11_measure 0 = .ok (.aload_n 0, 1) := by decide +kernel
theorem dX11_measure_1 : decode cX11_measure 1 = .ok (.getfield 20, 3) := by decide +kernel
theorem dX11_measure_4 : decode cX11_measure 4 = .ok (.iload_n 1, 1) := by decide +kernel
theorem dX11_measure_5 : decode cX11_measure 5 = .ok (.iload_n 2, 1) := by decide +kernel
theorem dX11_measure_6 : decode cX11_measure 6 = .ok (.iload_n 3, 1) := by decide +kernel
theorem dX11_measure_7 : decode cX11_measure 7 = .ok (.invokevirtual 129, 3) := by decide +kernel
theorem dX11_measure_10 : decode cX11_measure 10 = .ok (.istore 6, 2) := by decide +kernel
theorem dX11_measure_12 : decode cX11_measure 12 = .ok (.iload 6, 2) := by decide +kernel
theorem dX11_measure_14 : decode cX11_measure 14 = .ok (.iconst (-1), 1) := by decide +kernel
theorem dX11_measure_15 : decode cX11_measure 15 = .ok (.if_icmp .eq 15, 3) := by decide +kernel
theorem dX11_measure_18 : decode cX11_measure 18 = .ok (.aload_n 0, 1) := by decide +kernel
theorem dX11_measure_19 : decode cX11_measure 19 = .ok (.getfield 20, 3) := by decide +kernel
theorem dX11_measure_22 : decode cX11_measure 22 = .ok (.iload 4, 2) := by decide +kernel
theorem dX11_measure_24 : decode cX11_measure 24 = .ok (.invokevirtual 117, 3) := by decide +kernel
theorem dX11_measure_27 : decode cX11_measure 27 = .ok (.ifCond .ne 5, 3) := by decide +kernel
theorem dX11_measure_30 : decode cX11_measure 30 = .ok (.iconst (-1), 1) := by decide +kernel
theorem dX11_measure_31 : decode cX11_measure 31 = .ok (.ireturn, 1) := by decide +kernel
theorem dX11_measure_32 : decode cX11_measure 32 = .ok (.aload_n 0, 1) := by decide +kernel
theorem dX11_measure_33 : decode cX11_measure 33 = .ok (.getfield 73, 3) := by decide +kernel
theorem dX11_measure_36 : decode cX11_measure 36 = .ok (.iload 4, 2) := by decide +kernel
theorem dX11_measure_38 : decode cX11_measure 38 = .ok (.iload 5, 2) := by decide +kernel
theorem dX11_measure_40 : decode cX11_measure 40 = .ok (.invokevirtual 207, 3) := by decide +kernel
theorem dX11_measure_43 : decode cX11_measure 43 = .ok (.aload_n 0, 1) := by decide +kernel
theorem dX11_measure_44 : decode cX11_measure 44 = .ok (.getfield 73, 3) := by decide +kernel
theorem dX11_measure_47 : decode cX11_measure 47 = .ok (.iload 6, 2) := by decide +kernel
theorem dX11_measure_49 : decode cX11_measure 49 = .ok (.invokevirtual 211, 3) := by decide +kernel
theorem dX11_measure_52 : decode cX11_measure 52 = .ok (.ireturn, 1) := by decide +kernel
theorem dX11_adds_0 : decode cX11_adds 0 = .ok (.aload_n 0, 1) := by decide +kernel
theorem dX11_adds_1 : decode cX11_adds 1 = .ok (.getfield 20, 3) := by decide +kernel
theorem dX11_adds_4 : decode cX11_adds 4 = .ok (.iload_n 1, 1) := by decide +kernel
theorem dX11_adds_5 : decode cX11_adds 5 = .ok (.invokevirtual 117, 3) := by decide +kernel
theorem dX11_adds_8 : decode cX11_adds 8 = .ok (.ifCond .eq 35, 3) := by decide +kernel
theorem dX11_adds_11 : decode cX11_adds 11 = .ok (.aload_n 0, 1) := by decide +kernel
theorem dX11_adds_12 : decode cX11_adds 12 = .ok (.getfield 20, 3) := by decide +kernel
theorem dX11_adds_15 : decode cX11_adds 15 = .ok (.iload_n 2, 1) := by decide +kernel
theorem dX11_adds_16 : decode cX11_adds 16 = .ok (.invokevirtual 117, 3) := by decide +kernel
theorem dX11_adds_19 : decode cX11_adds 19 = .ok (.ifCond .eq 24, 3) := by decide +kernel
theorem dX11_adds_22 : decode cX11_adds 22 = .ok (.aload_n 0, 1) := by decide +kernel
theorem dX11_adds_23 : decode cX11_adds 23 = .ok (.getfield 20, 3) := by decide +kernel
theorem dX11_adds_26 : decode cX11_adds 26 = .ok (.getfield 123, 3) := by decide +kernel
theorem dX11_adds_29 : decode cX11_adds 29 = .ok (.iload_n 1, 1) := by decide +kernel
theorem dX11_adds_30 : decode cX11_adds 30 = .ok (.iaload, 1) := by decide +kernel
theorem dX11_adds_31 : decode cX11_adds 31 = .ok (.aload_n 0, 1) := by decide +kernel
theorem dX11_adds_32 : decode cX11_adds 32 = .ok (.getfield 20, 3) := by decide +kernel
theorem dX11_adds_35 : decode cX11_adds 35 = .ok (.getfield 120, 3) := by decide +kernel
theorem dX11_adds_38 : decode cX11_adds 38 = .ok (.iload_n 2, 1) := by decide +kernel
theorem dX11_adds_39 : decode cX11_adds 39 = .ok (.iaload, 1) := by decide +kernel
theorem dX11_adds_40 : decode cX11_adds 40 = .ok (.if_icmp .eq 5, 3) := by decide +kernel
theorem dX11_adds_43 : decode cX11_adds 43 = .ok (.iconst (-1), 1) := by decide +kernel
theorem dX11_adds_44 : decode cX11_adds 44 = .ok (.ireturn, 1) := by decide +kernel
theorem dX11_adds_45 : decode cX11_adds 45 = .ok (.aload_n 0, 1) := by decide +kernel
theorem dX11_adds_46 : decode cX11_adds 46 = .ok (.getfield 73, 3) := by decide +kernel
theorem dX11_adds_49 : decode cX11_adds 49 = .ok (.iload_n 1, 1) := by decide +kernel
theorem dX11_adds_50 : decode cX11_adds 50 = .ok (.iload_n 2, 1) := by decide +kernel
theorem dX11_adds_51 : decode cX11_adds 51 = .ok (.invokevirtual 214, 3) := by decide +kernel
theorem dX11_adds_54 : decode cX11_adds 54 = .ok (.ireturn, 1) := by decide +kernel
theorem dX11_fair_0 : decode cX11_fair 0 = .ok (.aload_n 0, 1) := by decide +kernel
theorem dX11_fair_1 : decode cX11_fair 1 = .ok (.getfield 73, 3) := by decide +kernel
theorem dX11_fair_4 : decode cX11_fair 4 = .ok (.invokevirtual 217, 3) := by decide +kernel
theorem dX11_fair_7 : decode cX11_fair 7 = .ok (.ireturn, 1) := by decide +kernel
theorem dX11_cover_0 : decode cX11_cover 0 = .ok (.aload_n 0, 1) := by decide +kernel
theorem dX11_cover_1 : decode cX11_cover 1 = .ok (.getfield 73, 3) := by decide +kernel
theorem dX11_cover_4 : decode cX11_cover 4 = .ok (.invokevirtual 220, 3) := by decide +kernel
theorem dX11_cover_7 : decode cX11_cover 7 = .ok (.aload_n 0, 1) := by decide +kernel
theorem dX11_cover_8 : decode cX11_cover 8 = .ok (.getfield 73, 3) := by decide +kernel
theorem dX11_cover_11 : decode cX11_cover 11 = .ok (.invokevirtual 223, 3) := by decide +kernel
theorem dX11_cover_14 : decode cX11_cover 14 = .ok (.ireturn, 1) := by decide +kernel
theorem dX11_turned_0 : decode cX11_turned 0 = .ok (.aload_n 0, 1) := by decide +kernel
theorem dX11_turned_1 : decode cX11_turned 1 = .ok (.getfield 73, 3) := by decide +kernel
theorem dX11_turned_4 : decode cX11_turned 4 = .ok (.invokevirtual 226, 3) := by decide +kernel
theorem dX11_turned_7 : decode cX11_turned 7 = .ok (.ireturn, 1) := by decide +kernel
theorem dX11_loud_0 : decode cX11_loud 0 = .ok (.aload_n 0, 1) := by decide +kernel
theorem dX11_loud_1 : decode cX11_loud 1 = .ok (.getfield 20, 3) := by decide +kernel
theorem dX11_loud_4 : decode cX11_loud 4 = .ok (.iload_n 1, 1) := by decide +kernel
theorem dX11_loud_5 : decode cX11_loud 5 = .ok (.iload_n 2, 1) := by decide +kernel
theorem dX11_loud_6 : decode cX11_loud 6 = .ok (.iload_n 3, 1) := by decide +kernel
theorem dX11_loud_7 : decode cX11_loud 7 = .ok (.invokevirtual 129, 3) := by decide +kernel
theorem dX11_loud_10 : decode cX11_loud 10 = .ok (.istore 5, 2) := by decide +kernel
theorem dX11_loud_12 : decode cX11_loud 12 = .ok (.iload 5, 2) := by decide +kernel
theorem dX11_loud_14 : decode cX11_loud 14 = .ok (.iconst (-1), 1) := by decide +kernel
theorem dX11_loud_15 : decode cX11_loud 15 = .ok (.if_icmp .eq 14, 3) := by decide +kernel
theorem dX11_loud_18 : decode cX11_loud 18 = .ok (.iload 4, 2) := by decide +kernel
theorem dX11_loud_20 : decode cX11_loud 20 = .ok (.ifCond .lt 9, 3) := by decide +kernel
theorem dX11_loud_23 : decode cX11_loud 23 = .ok (.iload 4, 2) := by decide +kernel
theorem dX11_loud_25 : decode cX11_loud 25 = .ok (.iconst 1, 1) := by decide +kernel
theorem dX11_loud_26 : decode cX11_loud 26 = .ok (.if_icmp .le 6, 3) := by decide +kernel
theorem dX11_loud_29 : decode cX11_loud 29 = .ok (.bipush (-2), 2) := by decide +kernel
theorem dX11_loud_31 : decode cX11_loud 31 = .ok (.ireturn, 1) := by decide +kernel
theorem dX11_loud_32 : decode cX11_loud 32 = .ok (.aload_n 0, 1) := by decide +kernel
theorem dX11_loud_33 : decode cX11_loud 33 = .ok (.getfield 60, 3) := by decide +kernel
theorem dX11_loud_36 : decode cX11_loud 36 = .ok (.getfield 133, 3) := by decide +kernel
theorem dX11_loud_39 : decode cX11_loud 39 = .ok (.astore 6, 2) := by decide +kernel
theorem dX11_loud_41 : decode cX11_loud 41 = .ok (.iconst (-1), 1) := by decide +kernel
theorem dX11_loud_42 : decode cX11_loud 42 = .ok (.istore 7, 2) := by decide +kernel
theorem dX11_loud_44 : decode cX11_loud 44 = .ok (.iconst 0, 1) := by decide +kernel
theorem dX11_loud_45 : decode cX11_loud 45 = .ok (.istore 8, 2) := by decide +kernel
theorem dX11_loud_47 : decode cX11_loud 47 = .ok (.aload 6, 2) := by decide +kernel
theorem dX11_loud_49 : decode cX11_loud 49 = .ok (.iload 5, 2) := by decide +kernel
theorem dX11_loud_51 : decode cX11_loud 51 = .ok (.invokevirtual 137, 3) := by decide +kernel
theorem dX11_loud_54 : decode cX11_loud 54 = .ok (.iconst 0, 1) := by decide +kernel
theorem dX11_loud_55 : decode cX11_loud 55 = .ok (.istore 9, 2) := by decide +kernel
theorem dX11_loud_57 : decode cX11_loud 57 = .ok (.iload 9, 2) := by decide +kernel
theorem dX11_loud_59 : decode cX11_loud 59 = .ok (.sipush 200, 3) := by decide +kernel
theorem dX11_loud_62 : decode cX11_loud 62 = .ok (.if_icmp .ge 53, 3) := by decide +kernel
theorem dX11_loud_65 : decode cX11_loud 65 = .ok (.aload 6, 2) := by decide +kernel
theorem dX11_loud_67 : decode cX11_loud 67 = .ok (.invokevirtual 229, 3) := by decide +kernel
theorem dX11_loud_70 : decode cX11_loud 70 = .ok (.ifCond .ne 45, 3) := by decide +kernel
theorem dX11_loud_73 : decode cX11_loud 73 = .ok (.aload 6, 2) := by decide +kernel
theorem dX11_loud_75 : decode cX11_loud 75 = .ok (.aload_n 0, 1) := by decide +kernel
theorem dX11_loud_76 : decode cX11_loud 76 = .ok (.getfield 46, 3) := by decide +kernel
theorem dX11_loud_79 : decode cX11_loud 79 = .ok (.getfield 66, 3) := by decide +kernel
theorem dX11_loud_82 : decode cX11_loud 82 = .ok (.invokevirtual 232, 3) := by decide +kernel
theorem dX11_loud_85 : decode cX11_loud 85 = .ok (.aload 6, 2) := by decide +kernel
theorem dX11_loud_87 : decode cX11_loud 87 = .ok (.getfield 146, 3) := by decide +kernel
theorem dX11_loud_90 : decode cX11_loud 90 = .ok (.iload 7, 2) := by decide +kernel
theorem dX11_loud_92 : decode cX11_loud 92 = .ok (.if_icmp .le 17, 3) := by decide +kernel
theorem dX11_loud_95 : decode cX11_loud 95 = .ok (.aload 6, 2) := by decide +kernel
theorem dX11_loud_97 : decode cX11_loud 97 = .ok (.getfield 146, 3) := by decide +kernel
theorem dX11_loud_100 : decode cX11_loud 100 = .ok (.istore 7, 2) := by decide +kernel
theorem dX11_loud_102 : decode cX11_loud 102 = .ok (.aload 6, 2) := by decide +kernel
theorem dX11_loud_104 : decode cX11_loud 104 = .ok (.getfield 191, 3) := by decide +kernel
theorem dX11_loud_107 : decode cX11_loud 107 = .ok (.istore 8, 2) := by decide +kernel
theorem dX11_loud_109 : decode cX11_loud 109 = .ok (.iinc 9 1, 3) := by decide +kernel
theorem dX11_loud_112 : decode cX11_loud 112 = .ok (.goto (-55), 3) := by decide +kernel
theorem dX11_loud_115 : decode cX11_loud 115 = .ok (.iload 4, 2) := by decide +kernel
theorem dX11_loud_117 : decode cX11_loud 117 = .ok (.ifCond .ne 8, 3) := by decide +kernel
theorem dX11_loud_120 : decode cX11_loud 120 = .ok (.iload 7, 2) := by decide +kernel
theorem dX11_loud_122 : decode cX11_loud 122 = .ok (.goto 5, 3) := by decide +kernel
theorem dX11_loud_125 : decode cX11_loud 125 = .ok (.iload 8, 2) := by decide +kernel
theorem dX11_loud_127 : decode cX11_loud 127 = .ok (.ireturn, 1) := by decide +kernel
theorem dX11_home_0 : decode cX11_home 0 = .ok (.aload_n 0, 1) := by decide +kernel
theorem dX11_home_1 : decode cX11_home 1 = .ok (.getfield 73, 3) := by decide +kernel
theorem dX11_home_4 : decode cX11_home 4 = .ok (.aload_n 0, 1) := by decide +kernel
theorem dX11_home_5 : decode cX11_home 5 = .ok (.getfield 20, 3) := by decide +kernel
theorem dX11_home_8 : decode cX11_home 8 = .ok (.iload_n 1, 1) := by decide +kernel
theorem dX11_home_9 : decode cX11_home 9 = .ok (.iload_n 2, 1) := by decide +kernel
theorem dX11_home_10 : decode cX11_home 10 = .ok (.iload_n 3, 1) := by decide +kernel
theorem dX11_home_11 : decode cX11_home 11 = .ok (.invokevirtual 129, 3) := by decide +kernel
theorem dX11_home_14 : decode cX11_home 14 = .ok (.iload 4, 2) := by decide +kernel
theorem dX11_home_16 : decode cX11_home 16 = .ok (.iload 5, 2) := by decide +kernel
theorem dX11_home_18 : decode cX11_home 18 = .ok (.iload 6, 2) := by decide +kernel
theorem dX11_home_20 : decode cX11_home 20 = .ok (.invokevirtual 236, 3) := by decide +kernel
theorem dX11_home_23 : decode cX11_home 23 = .ok (.ireturn, 1) := by decide +kernel
theorem dX11_temper_0 : decode cX11_temper 0 = .ok (.aload_n 0, 1) := by decide +kernel
theorem dX11_temper_1 : decode cX11_temper 1 = .ok (.getfield 73, 3) := by decide +kernel
theorem dX11_temper_4 : decode cX11_temper 4 = .ok (.aload_n 0, 1) := by decide +kernel
theorem dX11_temper_5 : decode cX11_temper 5 = .ok (.getfield 20, 3) := by decide +kernel
theorem dX11_temper_8 : decode cX11_temper 8 = .ok (.iload_n 1, 1) := by decide +kernel
theorem dX11_temper_9 : decode cX11_temper 9 = .ok (.iload_n 2, 1) := by decide +kernel
theorem dX11_temper_10 : decode cX11_temper 10 = .ok (.iload_n 3, 1) := by decide +kernel
theorem dX11_temper_11 : decode cX11_temper 11 = .ok (.invokevirtual 129, 3) := by decide +kernel
theorem dX11_temper_14 : decode cX11_temper 14 = .ok (.iload 4, 2) := by decide +kernel
theorem dX11_temper_16 : decode cX11_temper 16 = .ok (.invokevirtual 240, 3) := by decide +kernel
theorem dX11_temper_19 : decode cX11_temper 19 = .ok (.ireturn, 1) := by decide +kernel
theorem dX11_lies_0 : decode cX11_lies 0 = .ok (.aload_n 0, 1) := by decide +kernel
theorem dX11_lies_1 : decode cX11_lies 1 = .ok (.getfield 73, 3) := by decide +kernel
theorem dX11_lies_4 : decode cX11_lies 4 = .ok (.iload_n 1, 1) := by decide +kernel
theorem dX11_lies_5 : decode cX11_lies 5 = .ok (.invokevirtual 243, 3) := by decide +kernel
theorem dX11_lies_8 : decode cX11_lies 8 = .ok (.ireturn, 1) := by decide +kernel
theorem dX11_report_0 : decode cX11_report 0 = .ok (.aload_n 0, 1) := by decide +kernel
theorem dX11_report_1 : decode cX11_report 1 = .ok (.getfield 20, 3) := by decide +kernel
theorem dX11_report_4 : decode cX11_report 4 = .ok (.iload_n 1, 1) := by decide +kernel
theorem dX11_report_5 : decode cX11_report 5 = .ok (.iload_n 2, 1) := by decide +kernel
theorem dX11_report_6 : decode cX11_report 6 = .ok (.iload_n 3, 1) := by decide +kernel
theorem dX11_report_7 : decode cX11_report 7 = .ok (.invokevirtual 129, 3) := by decide +kernel
theorem dX11_report_10 : decode cX11_report 10 = .ok (.istore 5, 2) := by decide +kernel
theorem dX11_report_12 : decode cX11_report 12 = .ok (.iload 5, 2) := by decide +kernel
theorem dX11_report_14 : decode cX11_report 14 = .ok (.iconst (-1), 1) := by decide +kernel
theorem dX11_report_15 : decode cX11_report 15 = .ok (.if_icmp .eq 14, 3) := by decide +kernel
theorem dX11_report_18 : decode cX11_report 18 = .ok (.iload 4, 2) := by decide +kernel
theorem dX11_report_20 : decode cX11_report 20 = .ok (.ifCond .lt 9, 3) := by decide +kernel
theorem dX11_report_23 : decode cX11_report 23 = .ok (.iload 4, 2) := by decide +kernel
theorem dX11_report_25 : decode cX11_report 25 = .ok (.iconst 2, 1) := by decide +kernel
theorem dX11_report_26 : decode cX11_report 26 = .ok (.if_icmp .le 5, 3) := by decide +kernel
theorem dX11_report_29 : decode cX11_report 29 = .ok (.iconst (-1), 1) := by decide +kernel
theorem dX11_report_30 : decode cX11_report 30 = .ok (.ireturn, 1) := by decide +kernel
theorem dX11_report_31 : decode cX11_report 31 = .ok (.aload_n 0, 1) := by decide +kernel
theorem dX11_report_32 : decode cX11_report 32 = .ok (.getfield 80, 3) := by decide +kernel
theorem dX11_report_35 : decode cX11_report 35 = .ok (.iload 5, 2) := by decide +kernel
theorem dX11_report_37 : decode cX11_report 37 = .ok (.iload 4, 2) := by decide +kernel
theorem dX11_report_39 : decode cX11_report 39 = .ok (.invokevirtual 246, 3) := by decide +kernel
theorem dX11_report_42 : decode cX11_report 42 = .ok (.ireturn, 1) := by decide +kernel
theorem dX11_untell_0 : decode cX11_untell 0 = .ok (.aload_n 0, 1) := by decide +kernel
theorem dX11_untell_1 : decode cX11_untell 1 = .ok (.getfield 80, 3) := by decide +kernel
theorem dX11_untell_4 : decode cX11_untell 4 = .ok (.iload_n 1, 1) := by decide +kernel
theorem dX11_untell_5 : decode cX11_untell 5 = .ok (.invokevirtual 249, 3) := by decide +kernel
theorem dX11_untell_8 : decode cX11_untell 8 = .ok (.ireturn, 1) := by decide +kernel
theorem dX11_later_0 : decode cX11_later 0 = .ok (.aload_n 0, 1) := by decide +kernel
theorem dX11_later_1 : decode cX11_later 1 = .ok (.getfield 80, 3) := by decide +kernel
theorem dX11_later_4 : decode cX11_later 4 = .ok (.iload_n 1, 1) := by decide +kernel
theorem dX11_later_5 : decode cX11_later 5 = .ok (.invokevirtual 251, 3) := by decide +kernel
theorem dX11_later_8 : decode cX11_later 8 = .ok (.ireturn, 1) := by decide +kernel
theorem dX11_miles_0 : decode cX11_miles 0 = .ok (.aload_n 0, 1) := by decide +kernel
theorem dX11_miles_1 : decode cX11_miles 1 = .ok (.getfield 80, 3) := by decide +kernel
theorem dX11_miles_4 : decode cX11_miles 4 = .ok (.iload_n 1, 1) := by decide +kernel
theorem dX11_miles_5 : decode cX11_miles 5 = .ok (.invokevirtual 254, 3) := by decide +kernel
theorem dX11_miles_8 : decode cX11_miles 8 = .ok (.lreturn, 1) := by decide +kernel
theorem dX11_ask_0 : decode cX11_ask 0 = .ok (.aload_n 0, 1) := by decide +kernel
theorem dX11_ask_1 : decode cX11_ask 1 = .ok (.getfield 80, 3) := by decide +kernel
theorem dX11_ask_4 : decode cX11_ask 4 = .ok (.iload_n 1, 1) := by decide +kernel
theorem dX11_ask_5 : decode cX11_ask 5 = .ok (.iload_n 2, 1) := by decide +kernel
theorem dX11_ask_6 : decode cX11_ask 6 = .ok (.invokevirtual 258, 3) := by decide +kernel
theorem dX11_ask_9 : decode cX11_ask 9 = .ok (.ireturn, 1) := by decide +kernel
theorem dX11_image_0 : decode cX11_image 0 = .ok (.aload_n 0, 1) := by decide +kernel
theorem dX11_image_1 : decode cX11_image 1 = .ok (.getfield 46, 3) := by decide +kernel
theorem dX11_image_4 : decode cX11_image 4 = .ok (.iload_n 1, 1) := by decide +kernel
theorem dX11_image_5 : decode cX11_image 5 = .ok (.invokevirtual 261, 3) := by decide +kernel
theorem dX11_image_8 : decode cX11_image 8 = .ok (.ireturn, 1) := by decide +kernel
theorem dX11_back_0 : decode cX11_back 0 = .ok (.aload_n 0, 1) := by decide +kernel
theorem dX11_back_1 : decode cX11_back 1 = .ok (.getfield 46, 3) := by decide +kernel
theorem dX11_back_4 : decode cX11_back 4 = .ok (.iload_n 1, 1) := by decide +kernel
theorem dX11_back_5 : decode cX11_back 5 = .ok (.invokevirtual 264, 3) := by decide +kernel
theorem dX11_back_8 : decode cX11_back 8 = .ok (.ireturn, 1) := by decide +kernel
theorem dX11_about_0 : decode cX11_about 0 = .ok (.iload_n 1, 1) := by decide +kernel
theorem dX11_about_1 : decode cX11_about 1 = .ok (.tableswitch 209 0 13 #[71, 79, 87, 95, 103, 111, 119, 127, 150, 158, 166, 174, 179, 201], 71) := by decide +kernel
theorem dX11_about_72 : decode cX11_about 72 = .ok (.aload_n 0, 1) := by decide +kernel
theorem dX11_about_73 : decode cX11_about 73 = .ok (.getfield 20, 3) := by decide +kernel
theorem dX11_about_76 : decode cX11_about 76 = .ok (.getfield 104, 3) := by decide +kernel
theorem dX11_about_79 : decode cX11_about 79 = .ok (.ireturn, 1) := by decide +kernel
theorem dX11_about_80 : decode cX11_about 80 = .ok (.aload_n 0, 1) := by decide +kernel
theorem dX11_about_81 : decode cX11_about 81 = .ok (.getfield 20, 3) := by decide +kernel
theorem dX11_about_84 : decode cX11_about 84 = .ok (.getfield 267, 3) := by decide +kernel
theorem dX11_about_87 : decode cX11_about 87 = .ok (.ireturn, 1) := by decide +kernel
theorem dX11_about_88 : decode cX11_about 88 = .ok (.aload_n 0, 1) := by decide +kernel
theorem dX11_about_89 : decode cX11_about 89 = .ok (.getfield 20, 3) := by decide +kernel
theorem dX11_about_92 : decode cX11_about 92 = .ok (.getfield 270, 3) := by decide +kernel
theorem dX11_about_95 : decode cX11_about 95 = .ok (.ireturn, 1) := by decide +kernel
theorem dX11_about_96 : decode cX11_about 96 = .ok (.aload_n 0, 1) := by decide +kernel
theorem dX11_about_97 : decode cX11_about 97 = .ok (.getfield 20, 3) := by decide +kernel
theorem dX11_about_100 : decode cX11_about 100 = .ok (.getfield 273, 3) := by decide +kernel
theorem dX11_about_103 : decode cX11_about 103 = .ok (.ireturn, 1) := by decide +kernel
theorem dX11_about_104 : decode cX11_about 104 = .ok (.aload_n 0, 1) := by decide +kernel
theorem dX11_about_105 : decode cX11_about 105 = .ok (.getfield 46, 3) := by decide +kernel
theorem dX11_about_108 : decode cX11_about 108 = .ok (.getfield 276, 3) := by decide +kernel
theorem dX11_about_111 : decode cX11_about 111 = .ok (.ireturn, 1) := by decide +kernel
theorem dX11_about_112 : decode cX11_about 112 = .ok (.aload_n 0, 1) := by decide +kernel
theorem dX11_about_113 : decode cX11_about 113 = .ok (.getfield 46, 3) := by decide +kernel
theorem dX11_about_116 : decode cX11_about 116 = .ok (.getfield 279, 3) := by decide +kernel
theorem dX11_about_119 : decode cX11_about 119 = .ok (.ireturn, 1) := by decide +kernel
theorem dX11_about_120 : decode cX11_about 120 = .ok (.aload_n 0, 1) := by decide +kernel
theorem dX11_about_121 : decode cX11_about 121 = .ok (.getfield 46, 3) := by decide +kernel
theorem dX11_about_124 : decode cX11_about 124 = .ok (.getfield 282, 3) := by decide +kernel
theorem dX11_about_127 : decode cX11_about 127 = .ok (.ireturn, 1) := by decide +kernel
theorem dX11_about_128 : decode cX11_about 128 = .ok (.aload_n 0, 1) := by decide +kernel
theorem dX11_about_129 : decode cX11_about 129 = .ok (.getfield 53, 3) := by decide +kernel
theorem dX11_about_132 : decode cX11_about 132 = .ok (.getfield 183, 3) := by decide +kernel
theorem dX11_about_135 : decode cX11_about 135 = .ok (.iconst (-1), 1) := by decide +kernel
theorem dX11_about_136 : decode cX11_about 136 = .ok (.if_icmp .ne 7, 3) := by decide +kernel
theorem dX11_about_139 : decode cX11_about 139 = .ok (.iconst (-1), 1) := by decide +kernel
theorem dX11_about_140 : decode cX11_about 140 = .ok (.goto 10, 3) := by decide +kernel
theorem dX11_about_143 : decode cX11_about 143 = .ok (.aload_n 0, 1) := by decide +kernel
theorem dX11_about_144 : decode cX11_about 144 = .ok (.getfield 53, 3) := by decide +kernel
theorem dX11_about_147 : decode cX11_about 147 = .ok (.getfield 180, 3) := by decide +kernel
theorem dX11_about_150 : decode cX11_about 150 = .ok (.ireturn, 1) := by decide +kernel
theorem dX11_about_151 : decode cX11_about 151 = .ok (.aload_n 0, 1) := by decide +kernel
theorem dX11_about_152 : decode cX11_about 152 = .ok (.getfield 53, 3) := by decide +kernel
theorem dX11_about_155 : decode cX11_about 155 = .ok (.getfield 183, 3) := by decide +kernel
theorem dX11_about_158 : decode cX11_about 158 = .ok (.ireturn, 1) := by decide +kernel
theorem dX11_about_159 : decode cX11_about 159 = .ok (.aload_n 0, 1) := by decide +kernel
theorem dX11_about_160 : decode cX11_about 160 = .ok (.getfield 80, 3) := by decide +kernel
theorem dX11_about_163 : decode cX11_about 163 = .ok (.getfield 285, 3) := by decide +kernel
theorem dX11_about_166 : decode cX11_about 166 = .ok (.ireturn, 1) := by decide +kernel
theorem dX11_about_167 : decode cX11_about 167 = .ok (.aload_n 0, 1) := by decide +kernel
theorem dX11_about_168 : decode cX11_about 168 = .ok (.getfield 80, 3) := by decide +kernel
theorem dX11_about_171 : decode cX11_about 171 = .ok (.getfield 286, 3) := by decide +kernel
theorem dX11_about_174 : decode cX11_about 174 = .ok (.ireturn, 1) := by decide +kernel
theorem dX11_about_175 : decode cX11_about 175 = .ok (.aload_n 0, 1) := by decide +kernel
theorem dX11_about_176 : decode cX11_about 176 = .ok (.getfield 13, 3) := by decide +kernel
theorem dX11_about_179 : decode cX11_about 179 = .ok (.ireturn, 1) := by decide +kernel
theorem dX11_about_180 : decode cX11_about 180 = .ok (.aload_n 0, 1) := by decide +kernel
theorem dX11_about_181 : decode cX11_about 181 = .ok (.getfield 20, 3) := by decide +kernel
theorem dX11_about_184 : decode cX11_about 184 = .ok (.getfield 289, 3) := by decide +kernel
theorem dX11_about_187 : decode cX11_about 187 = .ok (.getfield 293, 3) := by decide +kernel
theorem dX11_about_190 : decode cX11_about 190 = .ok (.aload_n 0, 1) := by decide +kernel
theorem dX11_about_191 : decode cX11_about 191 = .ok (.getfield 20, 3) := by decide +kernel
theorem dX11_about_194 : decode cX11_about 194 = .ok (.getfield 298, 3) := by decide +kernel
theorem dX11_about_197 : decode cX11_about 197 = .ok (.getfield 293, 3) := by decide +kernel
theorem dX11_about_200 : decode cX11_about 200 = .ok (.iadd, 1) := by decide +kernel
theorem dX11_about_201 : decode cX11_about 201 = .ok (.ireturn, 1) := by decide +kernel
theorem dX11_about_202 : decode cX11_about 202 = .ok (.aload_n 0, 1) := by decide +kernel
theorem dX11_about_203 : decode cX11_about 203 = .ok (.getfield 73, 3) := by decide +kernel
theorem dX11_about_206 : decode cX11_about 206 = .ok (.getfield 301, 3) := by decide +kernel
theorem dX11_about_209 : decode cX11_about 209 = .ok (.ireturn, 1) := by decide +kernel
theorem dX11_about_210 : decode cX11_about 210 = .ok (.iconst (-1), 1) := by decide +kernel
theorem dX11_about_211 : decode cX11_about 211 = .ok (.ireturn, 1) := by decide +kernel
theorem dX11_within_0 : decode cX11_within 0 = .ok (.iload_n 1, 1) := by decide +kernel
theorem dX11_within_1 : decode cX11_within 1 = .ok (.iload_n 0, 1) := by decide +kernel
theorem dX11_within_2 : decode cX11_within 2 = .ok (.if_icmp .ge 5, 3) := by decide +kernel
theorem dX11_within_5 : decode cX11_within 5 = .ok (.iload_n 0, 1) := by decide +kernel
theorem dX11_within_6 : decode cX11_within 6 = .ok (.ireturn, 1) := by decide +kernel
theorem dX11_within_7 : decode cX11_within 7 = .ok (.iload_n 1, 1) := by decide +kernel
theorem dX11_within_8 : decode cX11_within 8 = .ok (.iload_n 2, 1) := by decide +kernel
theorem dX11_within_9 : decode cX11_within 9 = .ok (.if_icmp .le 7, 3) := by decide +kernel
theorem dX11_within_12 : decode cX11_within 12 = .ok (.iload_n 2, 1) := by decide +kernel
theorem dX11_within_13 : decode cX11_within 13 = .ok (.goto 4, 3) := by decide +kernel
theorem dX11_within_16 : decode cX11_within 16 = .ok (.iload_n 1, 1) := by decide +kernel
theorem dX11_within_17 : decode cX11_within 17 = .ok (.ireturn, 1) := by decide +kernel
theorem dX12_init_0 : decode cX12_init 0 = .ok (.aload_n 0, 1) := by decide +kernel
theorem dX12_init_1 : decode cX12_init 1 = .ok (.invokespecial 1, 3) := by decide +kernel
theorem dX12_init_4 : decode cX12_init 4 = .ok (.aload_n 0, 1) := by decide +kernel
theorem dX12_init_5 : decode cX12_init 5 = .ok (.sipush 1620, 3) := by decide +kernel
theorem dX12_init_8 : decode cX12_init 8 = .ok (.newarray .byte, 2) := by decide +kernel
theorem dX12_init_10 : decode cX12_init 10 = .ok (.putfield 7, 3) := by decide +kernel
theorem dX12_init_13 : decode cX12_init 13 = .ok (.aload_n 0, 1) := by decide +kernel
theorem dX12_init_14 : decode cX12_init 14 = .ok (.sipush 1600, 3) := by decide +kernel
theorem dX12_init_17 : decode cX12_init 17 = .ok (.newarray .byte, 2) := by decide +kernel
theorem dX12_init_19 : decode cX12_init 19 = .ok (.putfield 13, 3) := by decide +kernel
theorem dX12_init_22 : decode cX12_init 22 = .ok (.aload_n 0, 1) := by decide +kernel
theorem dX12_init_23 : decode cX12_init 23 = .ok (.iconst (-1), 1) := by decide +kernel
theorem dX12_init_24 : decode cX12_init 24 = .ok (.putfield 16, 3) := by decide +kernel
theorem dX12_init_27 : decode cX12_init 27 = .ok (.aload_n 0, 1) := by decide +kernel
theorem dX12_init_28 : decode cX12_init 28 = .ok (.iconst 2, 1) := by decide +kernel
theorem dX12_init_29 : decode cX12_init 29 = .ok (.newarray .int, 2) := by decide +kernel
theorem dX12_init_31 : decode cX12_init 31 = .ok (.putfield 20, 3) := by decide +kernel
theorem dX12_init_34 : decode cX12_init 34 = .ok (.aload_n 0, 1) := by decide +kernel
theorem dX12_init_35 : decode cX12_init 35 = .ok (.iconst 2, 1) := by decide +kernel
theorem dX12_init_36 : decode cX12_init 36 = .ok (.newarray .int, 2) := by decide +kernel
theorem dX12_init_38 : decode cX12_init 38 = .ok (.putfield 24, 3) := by decide +kernel
theorem dX12_init_41 : decode cX12_init 41 = .ok (.aload_n 0, 1) := by decide +kernel
theorem dX12_init_42 : decode cX12_init 42 = .ok (.iconst 2, 1) := by decide +kernel
theorem dX12_init_43 : decode cX12_init 43 = .ok (.newarray .int, 2) := by decide +kernel
theorem dX12_init_45 : decode cX12_init 45 = .ok (.putfield 27, 3) := by decide +kernel
theorem dX12_init_48 : decode cX12_init 48 = .ok (.aload_n 0, 1) := by decide +kernel
theorem dX12_init_49 : decode cX12_init 49 = .ok (.iconst 2, 1) := by decide +kernel
theorem dX12_init_50 : decode cX12_init 50 = .ok (.newarray .int, 2) := by decide +kernel
theorem dX12_init_52 : decode cX12_init 52 = .ok (.putfield 30, 3) := by decide +kernel
theorem dX12_init_55 : decode cX12_init 55 = .ok (.aload_n 0, 1) := by decide +kernel
theorem dX12_init_56 : decode cX12_init 56 = .ok (.iconst 2, 1) := by decide +kernel
theorem dX12_init_57 : decode cX12_init 57 = .ok (.newarray .int, 2) := by decide +kernel
theorem dX12_init_59 : decode cX12_init 59 = .ok (.putfield 33, 3) := by decide +kernel
theorem dX12_init_62 : decode cX12_init 62 = .ok (.aload_n 0, 1) := by decide +kernel
theorem dX12_init_63 : decode cX12_init 63 = .ok (.iconst 2, 1) := by decide +kernel
theorem dX12_init_64 : decode cX12_init 64 = .ok (.newarray .int, 2) := by decide +kernel
theorem dX12_init_66 : decode cX12_init 66 = .ok (.putfield 36, 3) := by decide +kernel
theorem dX12_init_69 : decode cX12_init 69 = .ok (.aload_n 0, 1) := by decide +kernel
theorem dX12_init_70 : decode cX12_init 70 = .ok (.bipush 16, 2) := by decide +kernel
theorem dX12_init_72 : decode cX12_init 72 = .ok (.newarray .int, 2) := by decide +kernel
theorem dX12_init_74 : decode cX12_init 74 = .ok (.putfield 39, 3) := by decide +kernel
theorem dX12_init_77 : decode cX12_init 77 = .ok (.aload_n 0, 1) := by decide +kernel
theorem dX12_init_78 : decode cX12_init 78 = .ok (.bipush 16, 2) := by decide +kernel
theorem dX12_init_80 : decode cX12_init 80 = .ok (.newarray .int, 2) := by decide +kernel
theorem dX12_init_82 : decode cX12_init 82 = .ok (.putfield 42, 3) := by decide +kernel
theorem dX12_init_85 : decode cX12_init 85 = .ok (.aload_n 0, 1) := by decide +kernel
theorem dX12_init_86 : decode cX12_init 86 = .ok (.bipush 28, 2) := by decide +kernel
theorem dX12_init_88 : decode cX12_init 88 = .ok (.newarray .int, 2) := by decide +kernel
theorem dX12_init_90 : decode cX12_init 90 = .ok (.putfield 45, 3) := by decide +kernel
theorem dX12_init_93 : decode cX12_init 93 = .ok (.aload_n 0, 1) := by decide +kernel
theorem dX12_init_94 : decode cX12_init 94 = .ok (.bipush 28, 2) := by decide +kernel
theorem dX12_init_96 : decode cX12_init 96 = .ok (.newarray .int, 2) := by decide +kernel
theorem dX12_init_98 : decode cX12_init 98 = .ok (.putfield 48, 3) := by decide +kernel
theorem dX12_init_101 : decode cX12_init 101 = .ok (.aload_n 0, 1) := by decide +kernel
theorem dX12_init_102 : decode cX12_init 102 = .ok (.bipush 28, 2) := by decide +kernel
theorem dX12_init_104 : decode cX12_init 104 = .ok (.newarray .int, 2) := by decide +kernel
theorem dX12_init_106 : decode cX12_init 106 = .ok (.putfield 51, 3) := by decide +kernel
theorem dX12_init_109 : decode cX12_init 109 = .ok (.aload_n 0, 1) := by decide +kernel
theorem dX12_init_110 : decode cX12_init 110 = .ok (.bipush 28, 2) := by decide +kernel
theorem dX12_init_112 : decode cX12_init 112 = .ok (.newarray .int, 2) := by decide +kernel
theorem dX12_init_114 : decode cX12_init 114 = .ok (.putfield 54, 3) := by decide +kernel
theorem dX12_init_117 : decode cX12_init 117 = .ok (.aload_n 0, 1) := by decide +kernel
theorem dX12_init_118 : decode cX12_init 118 = .ok (.bipush 12, 2) := by decide +kernel
theorem dX12_init_120 : decode cX12_init 120 = .ok (.newarray .int, 2) := by decide +kernel
theorem dX12_init_122 : decode cX12_init 122 = .ok (.putfield 57, 3) := by decide +kernel
theorem dX12_init_125 : decode cX12_init 125 = .ok (.aload_n 0, 1) := by decide +kernel
theorem dX12_init_126 : decode cX12_init 126 = .ok (.bipush 12, 2) := by decide +kernel
theorem dX12_init_128 : decode cX12_init 128 = .ok (.newarray .int, 2) := by decide +kernel
theorem dX12_init_130 : decode cX12_init 130 = .ok (.putfield 60, 3) := by decide +kernel
theorem dX12_init_133 : decode cX12_init 133 = .ok (.aload_n 0, 1) := by decide +kernel
theorem dX12_init_134 : decode cX12_init 134 = .ok (.bipush 12, 2) := by decide +kernel
theorem dX12_init_136 : decode cX12_init 136 = .ok (.newarray .int, 2) := by decide +kernel
theorem dX12_init_138 : decode cX12_init 138 = .ok (.putfield 63, 3) := by decide +kernel
theorem dX12_init_141 : decode cX12_init 141 = .ok (.aload_n 0, 1) := by decide +kernel
theorem dX12_init_142 : decode cX12_init 142 = .ok (.bipush 12, 2) := by decide +kernel
theorem dX12_init_144 : decode cX12_init 144 = .ok (.newarray .int, 2) := by decide +kernel
theorem dX12_init_146 : decode cX12_init 146 = .ok (.putfield 66, 3) := by decide +kernel
theorem dX12_init_149 : decode cX12_init 149 = .ok (.aload_n 0, 1) := by decide +kernel
theorem dX12_init_150 : decode cX12_init 150 = .ok (.bipush 96, 2) := by decide +kernel
theorem dX12_init_152 : decode cX12_init 152 = .ok (.newarray .int, 2) := by decide +kernel
theorem dX12_init_154 : decode cX12_init 154 = .ok (.putfield 69, 3) := by decide +kernel
theorem dX12_init_157 : decode cX12_init 157 = .ok (.aload_n 0, 1) := by decide +kernel
theorem dX12_init_158 : decode cX12_init 158 = .ok (.iconst 4, 1) := by decide +kernel
theorem dX12_init_159 : decode cX12_init 159 = .ok (.newarray .int, 2) := by decide +kernel
theorem dX12_init_161 : decode cX12_init 161 = .ok (.putfield 72, 3) := by decide +kernel
theorem dX12_init_164 : decode cX12_init 164 = .ok (.aload_n 0, 1) := by decide +kernel
theorem dX12_init_165 : decode cX12_init 165 = .ok (.iconst 4, 1) := by decide +kernel
theorem dX12_init_166 : decode cX12_init 166 = .ok (.newarray .int, 2) := by decide +kernel
theorem dX12_init_168 : decode cX12_init 168 = .ok (.putfield 75, 3) := by decide +kernel
theorem dX12_init_171 : decode cX12_init 171 = .ok (.aload_n 0, 1) := by decide +kernel
theorem dX12_init_172 : decode cX12_init 172 = .ok (.iconst 2, 1) := by decide +kernel
theorem dX12_init_173 : decode cX12_init 173 = .ok (.newarray .boolean, 2) := by decide +kernel
theorem dX12_init_175 : decode cX12_init 175 = .ok (.putfield 78, 3) := by decide +kernel
theorem dX12_init_178 : decode cX12_init 178 = .ok (.aload_n 0, 1) := by decide +kernel
theorem dX12_init_179 : decode cX12_init 179 = .ok (.iconst 4, 1) := by decide +kernel
theorem dX12_init_180 : decode cX12_init 180 = .ok (.newarray .boolean, 2) := by decide +kernel
theorem dX12_init_182 : decode cX12_init 182 = .ok (.putfield 82, 3) := by decide +kernel
theorem dX12_init_185 : decode cX12_init 185 = .ok (.aload_n 0, 1) := by decide +kernel
theorem dX12_init_186 : decode cX12_init 186 = .ok (.bipush 16, 2) := by decide +kernel
theorem dX12_init_188 : decode cX12_init 188 = .ok (.newarray .long, 2) := by decide +kernel
theorem dX12_init_190 : decode cX12_init 190 = .ok (.putfield 85, 3) := by decide +kernel
theorem dX12_init_193 : decode cX12_init 193 = .ok (.aload_n 0, 1) := by decide +kernel
theorem dX12_init_194 : decode cX12_init 194 = .ok (.bipush 12, 2) := by decide +kernel
theorem dX12_init_196 : decode cX12_init 196 = .ok (.newarray .long, 2) := by decide +kernel
theorem dX12_init_198 : decode cX12_init 198 = .ok (.putfield 89, 3) := by decide +kernel
theorem dX12_init_201 : decode cX12_init 201 = .ok (.aload_n 0, 1) := by decide +kernel
theorem dX12_init_202 : decode cX12_init 202 = .ok (.bipush 12, 2) := by decide +kernel
theorem dX12_init_204 : decode cX12_init 204 = .ok (.newarray .long, 2) := by decide +kernel
theorem dX12_init_206 : decode cX12_init 206 = .ok (.putfield 92, 3) := by decide +kernel
theorem dX12_init_209 : decode cX12_init 209 = .ok (.aload_n 0, 1) := by decide +kernel
theorem dX12_init_210 : decode cX12_init 210 = .ok (.sipush 1120, 3) := by decide +kernel
theorem dX12_init_213 : decode cX12_init 213 = .ok (.newarray .int, 2) := by decide +kernel
theorem dX12_init_215 : decode cX12_init 215 = .ok (.putfield 95, 3) := by decide +kernel
theorem dX12_init_218 : decode cX12_init 218 = .ok (.aload_n 0, 1) := by decide +kernel
theorem dX12_init_219 : decode cX12_init 219 = .ok (.sipush 1120, 3) := by decide +kernel
theorem dX12_init_222 : decode cX12_init 222 = .ok (.newarray .int, 2) := by decide +kernel
theorem dX12_init_224 : decode cX12_init 224 = .ok (.putfield 98, 3) := by decide +kernel
theorem dX12_init_227 : decode cX12_init 227 = .ok (.aload_n 0, 1) := by decide +kernel
theorem dX12_init_228 : decode cX12_init 228 = .ok (.bipush 90, 2) := by decide +kernel
theorem dX12_init_230 : decode cX12_init 230 = .ok (.newarray .int, 2) := by decide +kernel
theorem dX12_init_232 : decode cX12_init 232 = .ok (.putfield 101, 3) := by decide +kernel
theorem dX12_init_235 : decode cX12_init 235 = .ok (.aload_n 0, 1) := by decide +kernel
theorem dX12_init_236 : decode cX12_init 236 = .ok (.bipush 90, 2) := by decide +kernel
theorem dX12_init_238 : decode cX12_init 238 = .ok (.newarray .int, 2) := by decide +kernel
theorem dX12_init_240 : decode cX12_init 240 = .ok (.putfield 104, 3) := by decide +kernel
theorem dX12_init_243 : decode cX12_init 243 = .ok (.aload_n 0, 1) := by decide +kernel
theorem dX12_init_244 : decode cX12_init 244 = .ok (.bipush 60, 2) := by decide +kernel
theorem dX12_init_246 : decode cX12_init 246 = .ok (.newarray .int, 2) := by decide +kernel
theorem dX12_init_248 : decode cX12_init 248 = .ok (.putfield 107, 3) := by decide +kernel
theorem dX12_init_251 : decode cX12_init 251 = .ok (.aload_n 0, 1) := by decide +kernel
theorem dX12_init_252 : decode cX12_init 252 = .ok (.bipush 44, 2) := by decide +kernel
theorem dX12_init_254 : decode cX12_init 254 = .ok (.newarray .int, 2) := by decide +kernel
theorem dX12_init_256 : decode cX12_init 256 = .ok (.putfield 110, 3) := by decide +kernel
theorem dX12_init_259 : decode cX12_init 259 = .ok (.aload_n 0, 1) := by decide +kernel
theorem dX12_init_260 : decode cX12_init 260 = .ok (.bipush 44, 2) := by decide +kernel
theorem dX12_init_262 : decode cX12_init 262 = .ok (.newarray .int, 2) := by decide +kernel
theorem dX12_init_264 : decode cX12_init 264 = .ok (.putfield 113, 3) := by decide +kernel
theorem dX12_init_267 : decode cX12_init 267 = .ok (.aload_n 0, 1) := by decide +kernel
theorem dX12_init_268 : decode cX12_init 268 = .ok (.sipush 1804, 3) := by decide +kernel
theorem dX12_init_271 : decode cX12_init 271 = .ok (.newarray .int, 2) := by decide +kernel
theorem dX12_init_273 : decode cX12_init 273 = .ok (.putfield 116, 3) := by decide +kernel
theorem dX12_init_276 : decode cX12_init 276 = .ok (.aload_n 0, 1) := by decide +kernel
theorem dX12_init_277 : decode cX12_init 277 = .ok (.bipush 12, 2) := by decide +kernel
theorem dX12_init_279 : decode cX12_init 279 = .ok (.newarray .int, 2) := by decide +kernel
theorem dX12_init_281 : decode cX12_init 281 = .ok (.putfield 119, 3) := by decide +kernel
theorem dX12_init_284 : decode cX12_init 284 = .ok (.aload_n 0, 1) := by decide +kernel
theorem dX12_init_285 : decode cX12_init 285 = .ok (.bipush 12, 2) := by decide +kernel
theorem dX12_init_287 : decode cX12_init 287 = .ok (.newarray .int, 2) := by decide +kernel
theorem dX12_init_289 : decode cX12_init 289 = .ok (.putfield 122, 3) := by decide +kernel
theorem dX12_init_292 : decode cX12_init 292 = .ok (.aload_n 0, 1) := by decide +kernel
theorem dX12_init_293 : decode cX12_init 293 = .ok (.iconst (-1), 1) := by decide +kernel
theorem dX12_init_294 : decode cX12_init 294 = .ok (.putfield 125, 3) := by decide +kernel
theorem dX12_init_297 : decode cX12_init 297 = .ok (.aload_n 0, 1) := by decide +kernel
theorem dX12_init_298 : decode cX12_init 298 = .ok (.bipush 8, 2) := by decide +kernel
theorem dX12_init_300 : decode cX12_init 300 = .ok (.newarray .int, 2) := by decide +kernel
theorem dX12_init_302 : decode cX12_init 302 = .ok (.putfield 128, 3) := by decide +kernel
theorem dX12_init_305 : decode cX12_init 305 = .ok (.aload_n 0, 1) := by decide +kernel
theorem dX12_init_306 : decode cX12_init 306 = .ok (.bipush 8, 2) := by decide +kernel
theorem dX12_init_308 : decode cX12_init 308 = .ok (.newarray .int, 2) := by decide +kernel
theorem dX12_init_310 : decode cX12_init 310 = .ok (.putfield 131, 3) := by decide +kernel
theorem dX12_init_313 : decode cX12_init 313 = .ok (.aload_n 0, 1) := by decide +kernel
theorem dX12_init_314 : decode cX12_init 314 = .ok (.sipush 216, 3) := by decide +kernel
theorem dX12_init_317 : decode cX12_init 317 = .ok (.newarray .int, 2) := by decide +kernel
theorem dX12_init_319 : decode cX12_init 319 = .ok (.putfield 134, 3) := by decide +kernel
theorem dX12_init_322 : decode cX12_init 322 = .ok (.aload_n 0, 1) := by decide +kernel
theorem dX12_init_323 : decode cX12_init 323 = .ok (.iconst 1, 1) := by decide +kernel
theorem dX12_init_324 : decode cX12_init 324 = .ok (.newarray .int, 2) := by decide +kernel
theorem dX12_init_326 : decode cX12_init 326 = .ok (.putfield 137, 3) := by decide +kernel
theorem dX12_init_329 : decode cX12_init 329 = .ok (.aload_n 0, 1) := by decide +kernel
theorem dX12_init_330 : decode cX12_init 330 = .ok (.iconst 4, 1) := by decide +kernel
theorem dX12_init_331 : decode cX12_init 331 = .ok (.newarray .int, 2) := by decide +kernel
theorem dX12_init_333 : decode cX12_init 333 = .ok (.putfield 140, 3) := by decide +kernel
theorem dX12_init_336 : decode cX12_init 336 = .ok (.aload_n 0, 1) := by decide +kernel
theorem dX12_init_337 : decode cX12_init 337 = .ok (.iconst 4, 1) := by decide +kernel
theorem dX12_init_338 : decode cX12_init 338 = .ok (.newarray .int, 2) := by decide +kernel
theorem dX12_init_340 : decode cX12_init 340 = .ok (.putfield 143, 3) := by decide +kernel
theorem dX12_init_343 : decode cX12_init 343 = .ok (.aload_n 0, 1) := by decide +kernel
theorem dX12_init_344 : decode cX12_init 344 = .ok (.iconst 4, 1) := by decide +kernel
theorem dX12_init_345 : decode cX12_init 345 = .ok (.newarray .int, 2) := by decide +kernel
theorem dX12_init_347 : decode cX12_init 347 = .ok (.putfield 146, 3) := by decide +kernel
theorem dX12_init_350 : decode cX12_init 350 = .ok (.aload_n 0, 1) := by decide +kernel
theorem dX12_init_351 : decode cX12_init 351 = .ok (.iconst 4, 1) := by decide +kernel
theorem dX12_init_352 : decode cX12_init 352 = .ok (.newarray .int, 2) := by decide +kernel
theorem dX12_init_354 : decode cX12_init 354 = .ok (.putfield 149, 3) := by decide +kernel
theorem dX12_init_357 : decode cX12_init 357 = .ok (.aload_n 0, 1) := by decide +kernel
theorem dX12_init_358 : decode cX12_init 358 = .ok (.bipush 30, 2) := by decide +kernel
theorem dX12_init_360 : decode cX12_init 360 = .ok (.newarray .int, 2) := by decide +kernel
theorem dX12_init_362 : decode cX12_init 362 = .ok (.putfield 152, 3) := by decide +kernel
theorem dX12_init_365 : decode cX12_init 365 = .ok (.aload_n 0, 1) := by decide +kernel
theorem dX12_init_366 : decode cX12_init 366 = .ok (.bipush 30, 2) := by decide +kernel
theorem dX12_init_368 : decode cX12_init 368 = .ok (.newarray .int, 2) := by decide +kernel
theorem dX12_init_370 : decode cX12_init 370 = .ok (.putfield 155, 3) := by decide +kernel
theorem dX12_init_373 : decode cX12_init 373 = .ok (.aload_n 0, 1) := by decide +kernel
theorem dX12_init_374 : decode cX12_init 374 = .ok (.bipush 30, 2) := by decide +kernel
theorem dX12_init_376 : decode cX12_init 376 = .ok (.newarray .int, 2) := by decide +kernel
theorem dX12_init_378 : decode cX12_init 378 = .ok (.putfield 158, 3) := by decide +kernel
theorem dX12_init_381 : decode cX12_init 381 = .ok (.aload_n 0, 1) := by decide +kernel
theorem dX12_init_382 : decode cX12_init 382 = .ok (.bipush 30, 2) := by decide +kernel
theorem dX12_init_384 : decode cX12_init 384 = .ok (.newarray .int, 2) := by decide +kernel
theorem dX12_init_386 : decode cX12_init 386 = .ok (.putfield 161, 3) := by decide +kernel
theorem dX12_init_389 : decode cX12_init 389 = .ok (.aload_n 0, 1) := by decide +kernel
theorem dX12_init_390 : decode cX12_init 390 = .ok (.iconst 3, 1) := by decide +kernel
theorem dX12_init_391 : decode cX12_init 391 = .ok (.newarray .int, 2) := by decide +kernel
theorem dX12_init_393 : decode cX12_init 393 = .ok (.putfield 164, 3) := by decide +kernel
theorem dX12_init_396 : decode cX12_init 396 = .ok (.aload_n 0, 1) := by decide +kernel
theorem dX12_init_397 : decode cX12_init 397 = .ok (.sipush 132, 3) := by decide +kernel
theorem dX12_init_400 : decode cX12_init 400 = .ok (.newarray .int, 2) := by decide +kernel
theorem dX12_init_402 : decode cX12_init 402 = .ok (.putfield 167, 3) := by decide +kernel
theorem dX12_init_405 : decode cX12_init 405 = .ok (.aload_n 0, 1) := by decide +kernel
theorem dX12_init_406 : decode cX12_init 406 = .ok (.iconst 3, 1) := by decide +kernel
theorem dX12_init_407 : decode cX12_init 407 = .ok (.newarray .boolean, 2) := by decide +kernel
theorem dX12_init_409 : decode cX12_init 409 = .ok (.putfield 170, 3) := by decide +kernel
theorem dX12_init_412 : decode cX12_init 412 = .ok (.aload_n 0, 1) := by decide +kernel
theorem dX12_init_413 : decode cX12_init 413 = .ok (.invokevirtual 173, 3) := by decide +kernel
theorem dX12_init_416 : decode cX12_init 416 = .ok (.aload_n 0, 1) := by decide +kernel
theorem dX12_init_417 : decode cX12_init 417 = .ok (.invokevirtual 176, 3) := by decide +kernel
theorem dX12_init_420 : decode cX12_init 420 = .ok (.return_, 1) := by decide +kernel
theorem dX12_sign_0 : decode cX12_sign 0 = .ok (.iload_n 1, 1) := by decide +kernel
theorem dX12_sign_1 : decode cX12_sign 1 = .ok (.aload_n 0, 1) := by decide +kernel
theorem dX12_sign_2 : decode cX12_sign 2 = .ok (.getfield 179, 3) := by decide +kernel
theorem dX12_sign_5 : decode cX12_sign 5 = .ok (.if_icmp .ge 16, 3) := by decide +kernel
theorem dX12_sign_8 : decode cX12_sign 8 = .ok (.aload_n 0, 1) := by decide +kernel
theorem dX12_sign_9 : decode cX12_sign 9 = .ok (.getfield 13, 3) := by decide +kernel
theorem dX12_sign_12 : decode cX12_sign 12 = .ok (.iload_n 1, 1) := by decide +kernel
theorem dX12_sign_13 : decode cX12_sign 13 = .ok (.baload, 1) := by decide +kernel
theorem dX12_sign_14 : decode cX12_sign 14 = .ok (.sipush 255, 3) := by decide +kernel
theorem dX12_sign_17 : decode cX12_sign 17 = .ok (.iand, 1) := by decide +kernel
theorem dX12_sign_18 : decode cX12_sign 18 = .ok (.goto 4, 3) := by decide +kernel
theorem dX12_sign_21 : decode cX12_sign 21 = .ok (.iconst 0, 1) := by decide +kernel
theorem dX12_sign_22 : decode cX12_sign 22 = .ok (.ireturn, 1) := by decide +kernel
theorem dX12_isLetter_0 : decode cX12_isLetter 0 = .ok (.iload_n 0, 1) := by decide +kernel
theorem dX12_isLetter_1 : decode cX12_isLetter 1 = .ok (.bipush 97, 2) := by decide +kernel
theorem dX12_isLetter_3 : decode cX12_isLetter 3 = .ok (.if_icmp .lt 13, 3) := by decide +kernel
theorem dX12_isLetter_6 : decode cX12_isLetter 6 = .ok (.iload_n 0, 1) := by decide +kernel
theorem dX12_isLetter_7 : decode cX12_isLetter 7 = .ok (.bipush 122, 2) := by decide +kernel
theorem dX12_isLetter_9 : decode cX12_isLetter 9 = .ok (.if_icmp .gt 7, 3) := by decide +kernel
theorem dX12_isLetter_12 : decode cX12_isLetter 12 = .ok (.iconst 1, 1) := by decide +kernel
theorem dX12_isLetter_13 : decode cX12_isLetter 13 = .ok (.goto 4, 3) := by decide +kernel
theorem dX12_isLetter_16 : decode cX12_isLetter 16 = .ok (.iconst 0, 1) := by decide +kernel
theorem dX12_isLetter_17 : decode cX12_isLetter 17 = .ok (.ireturn, 1) := by decide +kernel
theorem dX12_isDigit_0 : decode cX12_isDigit 0 = .ok (.iload_n 0, 1) := by decide +kernel
theorem dX12_isDigit_1 : decode cX12_isDigit 1 = .ok (.bipush 48, 2) := by decide +kernel
theorem dX12_isDigit_3 : decode cX12_isDigit 3 = .ok (.if_icmp .lt 13, 3) := by decide +kernel
theorem dX12_isDigit_6 : decode cX12_isDigit 6 = .ok (.iload_n 0, 1) := by decide +kernel
theorem dX12_isDigit_7 : decode cX12_isDigit 7 = .ok (.bipush 57, 2) := by decide +kernel
theorem dX12_isDigit_9 : decode cX12_isDigit 9 = .ok (.if_icmp .gt 7, 3) := by decide +kernel
theorem dX12_isDigit_12 : decode cX12_isDigit 12 = .ok (.iconst 1, 1) := by decide +kernel
theorem dX12_isDigit_13 : decode cX12_isDigit 13 = .ok (.goto 4, 3) := by decide +kernel
theorem dX12_isDigit_16 : decode cX12_isDigit 16 = .ok (.iconst 0, 1) := by decide +kernel
theorem dX12_isDigit_17 : decode cX12_isDigit 17 = .ok (.ireturn, 1) := by decide +kernel
theorem dX12_fails_0 : decode cX12_fails 0 = .ok (.aload_n 0, 1) := by decide +kernel
theorem dX12_fails_1 : decode cX12_fails 1 = .ok (.getfield 182, 3) := by decide +kernel
theorem dX12_fails_4 : decode cX12_fails 4 = .ok (.ifCond .le 4, 3) := by decide +kernel
theorem dX12_fails_7 : decode cX12_fails 7 = .ok (.return_, 1) := by decide +kernel
theorem dX12_fails_8 : decode cX12_fails 8 = .ok (.aload_n 0, 1) := by decide +kernel
theorem dX12_fails_9 : decode cX12_fails 9 = .ok (.iload_n 1, 1) := by decide +kernel
theorem dX12_fails_10 : decode cX12_fails 10 = .ok (.putfield 182, 3) := by decide +kernel
theorem dX12_fails_13 : decode cX12_fails 13 = .ok (.aload_n 0, 1) := by decide +kernel
theorem dX12_fails_14 : decode cX12_fails 14 = .ok (.iload_n 2, 1) := by decide +kernel
theorem dX12_fails_15 : decode cX12_fails 15 = .ok (.putfield 16, 3) := by decide +kernel
theorem dX12_fails_18 : decode cX12_fails 18 = .ok (.return_, 1) := by decide +kernel
theorem dX12_isGood_0 : decode cX12_isGood 0 = .ok (.aload_n 0, 1) := by decide +kernel
theorem dX12_isGood_1 : decode cX12_isGood 1 = .ok (.getfield 182, 3) := by decide +kernel
theorem dX12_isGood_4 : decode cX12_isGood 4 = .ok (.ifCond .ne 7, 3) := by decide +kernel
theorem dX12_isGood_7 : decode cX12_isGood 7 = .ok (.iconst 1, 1) := by decide +kernel
theorem dX12_isGood_8 : decode cX12_isGood 8 = .ok (.goto 4, 3) := by decide +kernel
theorem dX12_isGood_11 : decode cX12_isGood 11 = .ok (.iconst 0, 1) := by decide +kernel
theorem dX12_isGood_12 : decode cX12_isGood 12 = .ok (.ireturn, 1) := by decide +kernel
theorem dX12_isKept_0 : decode cX12_isKept 0 = .ok (.lload_n 0, 1) := by decide +kernel
theorem dX12_isKept_1 : decode cX12_isKept 1 = .ok (.ldc2_w 185, 3) := by decide +kernel
theorem dX12_isKept_4 : decode cX12_isKept 4 = .ok (.lcmp, 1) := by decide +kernel
theorem dX12_isKept_5 : decode cX12_isKept 5 = .ok (.ifCond .eq 83, 3) := by decide +kernel
theorem dX12_isKept_8 : decode cX12_isKept 8 = .ok (.lload_n 0, 1) := by decide +kernel
theorem dX12_isKept_9 : decode cX12_isKept 9 = .ok (.ldc2_w 187, 3) := by decide +kernel
theorem dX12_isKept_12 : decode cX12_isKept 12 = .ok (.lcmp, 1) := by decide +kernel
theorem dX12_isKept_13 : decode cX12_isKept 13 = .ok (.ifCond .eq 75, 3) := by decide +kernel
theorem dX12_isKept_16 : decode cX12_isKept 16 = .ok (.lload_n 0, 1) := by decide +kernel
theorem dX12_isKept_17 : decode cX12_isKept 17 = .ok (.ldc2_w 189, 3) := by decide +kernel
theorem dX12_isKept_20 : decode cX12_isKept 20 = .ok (.lcmp, 1) := by decide +kernel
theorem dX12_isKept_21 : decode cX12_isKept 21 = .ok (.ifCond .eq 67, 3) := by decide +kernel
theorem dX12_isKept_24 : decode cX12_isKept 24 = .ok (.lload_n 0, 1) := by decide +kernel
theorem dX12_isKept_25 : decode cX12_isKept 25 = .ok (.ldc2_w 191, 3) := by decide +kernel
theorem dX12_isKept_28 : decode cX12_isKept 28 = .ok (.lcmp, 1) := by decide +kernel
theorem dX12_isKept_29 : decode cX12_isKept 29 = .ok (.ifCond .eq 59, 3) := by decide +kernel
theorem dX12_isKept_32 : decode cX12_isKept 32 = .ok (.lload_n 0, 1) := by decide +kernel
theorem dX12_isKept_33 : decode cX12_isKept 33 = .ok (.ldc2_w 193, 3) := by decide +kernel
theorem dX12_isKept_36 : decode cX12_isKept 36 = .ok (.lcmp, 1) := by decide +kernel
theorem dX12_isKept_37 : decode cX12_isKept 37 = .ok (.ifCond .eq 51, 3) := by decide +kernel
theorem dX12_isKept_40 : decode cX12_isKept 40 = .ok (.lload_n 0, 1) := by decide +kernel
theorem dX12_isKept_41 : decode cX12_isKept 41 = .ok (.ldc2_w 195, 3) := by decide +kernel
theorem dX12_isKept_44 : decode cX12_isKept 44 = .ok (.lcmp, 1) := by decide +kernel
theorem dX12_isKept_45 : decode cX12_isKept 45 = .ok (.ifCond .eq 43, 3) := by decide +kernel
theorem dX12_isKept_48 : decode cX12_isKept 48 = .ok (.lload_n 0, 1) := by decide +kernel
theorem dX12_isKept_49 : decode cX12_isKept 49 = .ok (.ldc2_w 197, 3) := by decide +kernel
theorem dX12_isKept_52 : decode cX12_isKept 52 = .ok (.lcmp, 1) := by decide +kernel
theorem dX12_isKept_53 : decode cX12_isKept 53 = .ok (.ifCond .eq 35, 3) := by decide +kernel
theorem dX12_isKept_56 : decode cX12_isKept 56 = .ok (.lload_n 0, 1) := by decide +kernel
theorem dX12_isKept_57 : decode cX12_isKept 57 = .ok (.ldc2_w 199, 3) := by decide +kernel
theorem dX12_isKept_60 : decode cX12_isKept 60 = .ok (.lcmp, 1) := by decide +kernel
theorem dX12_isKept_61 : decode cX12_isKept 61 = .ok (.ifCond .eq 27, 3) := by decide +kernel
theorem dX12_isKept_64 : decode cX12_isKept 64 = .ok (.lload_n 0, 1) := by decide +kernel
theorem dX12_isKept_65 : decode cX12_isKept 65 = .ok (.ldc2_w 201, 3) := by decide +kernel
theorem dX12_isKept_68 : decode cX12_isKept 68 = .ok (.lcmp, 1) := by decide +kernel
theorem dX12_isKept_69 : decode cX12_isKept 69 = .ok (.ifCond .eq 19, 3) := by decide +kernel
theorem dX12_isKept_72 : decode cX12_isKept 72 = .ok (.lload_n 0, 1) := by decide +kernel
theorem dX12_isKept_73 : decode cX12_isKept 73 = .ok (.ldc2_w 203, 3) := by decide +kernel
theorem dX12_isKept_76 : decode cX12_isKept 76 = .ok (.lcmp, 1) := by decide +kernel
theorem dX12_isKept_77 : decode cX12_isKept 77 = .ok (.ifCond .eq 11, 3) := by decide +kernel
theorem dX12_isKept_80 : decode cX12_isKept 80 = .ok (.lload_n 0, 1) := by decide +kernel
theorem dX12_isKept_81 : decode cX12_isKept 81 = .ok (.ldc2_w 205, 3) := by decide +kernel
theorem dX12_isKept_84 : decode cX12_isKept 84 = .ok (.lcmp, 1) := by decide +kernel
theorem dX12_isKept_85 : decode cX12_isKept 85 = .ok (.ifCond .ne 7, 3) := by decide +kernel
theorem dX12_isKept_88 : decode cX12_isKept 88 = .ok (.iconst 1, 1) := by decide +kernel
theorem dX12_isKept_89 : decode cX12_isKept 89 = .ok (.goto 4, 3) := by decide +kernel
theorem dX12_isKept_92 : decode cX12_isKept 92 = .ok (.iconst 0, 1) := by decide +kernel
theorem dX12_isKept_93 : decode cX12_isKept 93 = .ok (.istore_n 2, 1) := by decide +kernel
theorem dX12_isKept_94 : decode cX12_isKept 94 = .ok (.iload_n 2, 1) := by decide +kernel
theorem dX12_isKept_95 : decode cX12_isKept 95 = .ok (.ifCond .ne 83, 3) := by decide +kernel
theorem dX12_isKept_98 : decode cX12_isKept 98 = .ok (.lload_n 0, 1) := by decide +kernel
theorem dX12_isKept_99 : decode cX12_isKept 99 = .ok (.ldc2_w 207, 3) := by decide +kernel
theorem dX12_isKept_102 : decode cX12_isKept 102 = .ok (.lcmp, 1) := by decide +kernel
theorem dX12_isKept_103 : decode cX12_isKept 103 = .ok (.ifCond .eq 75, 3) := by decide +kernel
theorem dX12_isKept_106 : decode cX12_isKept 106 = .ok (.lload_n 0, 1) := by decide +kernel
theorem dX12_isKept_107 : decode cX12_isKept 107 = .ok (.ldc2_w 209, 3) := by decide +kernel
theorem dX12_isKept_110 : decode cX12_isKept 110 = .ok (.lcmp, 1) := by decide +kernel
theorem dX12_isKept_111 : decode cX12_isKept 111 = .ok (.ifCond .eq 67, 3) := by decide +kernel
theorem dX12_isKept_114 : decode cX12_isKept 114 = .ok (.lload_n 0, 1) := by decide +kernel
theorem dX12_isKept_115 : decode cX12_isKept 115 = .ok (.ldc2_w 211, 3) := by decide +kernel
theorem dX12_isKept_118 : decode cX12_isKept 118 = .ok (.lcmp, 1) := by decide +kernel
theorem dX12_isKept_119 : decode cX12_isKept 119 = .ok (.ifCond .eq 59, 3) := by decide +kernel
theorem dX12_isKept_122 : decode cX12_isKept 122 = .ok (.lload_n 0, 1) := by decide +kernel
theorem dX12_isKept_123 : decode cX12_isKept 123 = .ok (.ldc2_w 213, 3) := by decide +kernel
theorem dX12_isKept_126 : decode cX12_isKept 126 = .ok (.lcmp, 1) := by decide +kernel
theorem dX12_isKept_127 : decode cX12_isKept 127 = .ok (.ifCond .eq 51, 3) := by decide +kernel
theorem dX12_isKept_130 : decode cX12_isKept 130 = .ok (.lload_n 0, 1) := by decide +kernel
theorem dX12_isKept_131 : decode cX12_isKept 131 = .ok (.ldc2_w 215, 3) := by decide +kernel
theorem dX12_isKept_134 : decode cX12_isKept 134 = .ok (.lcmp, 1) := by decide +kernel
theorem dX12_isKept_135 : decode cX12_isKept 135 = .ok (.ifCond .eq 43, 3) := by decide +kernel
theorem dX12_isKept_138 : decode cX12_isKept 138 = .ok (.lload_n 0, 1) := by decide +kernel
theorem dX12_isKept_139 : decode cX12_isKept 139 = .ok (.ldc2_w 217, 3) := by decide +kernel
theorem dX12_isKept_142 : decode cX12_isKept 142 = .ok (.lcmp, 1) := by decide +kernel
theorem dX12_isKept_143 : decode cX12_isKept 143 = .ok (.ifCond .eq 35, 3) := by decide +kernel
theorem dX12_isKept_146 : decode cX12_isKept 146 = .ok (.lload_n 0, 1) := by decide +kernel
theorem dX12_isKept_147 : decode cX12_isKept 147 = .ok (.ldc2_w 219, 3) := by decide +kernel
theorem dX12_isKept_150 : decode cX12_isKept 150 = .ok (.lcmp, 1) := by decide +kernel
theorem dX12_isKept_151 : decode cX12_isKept 151 = .ok (.ifCond .eq 27, 3) := by decide +kernel
theorem dX12_isKept_154 : decode cX12_isKept 154 = .ok (.lload_n 0, 1) := by decide +kernel
theorem dX12_isKept_155 : decode cX12_isKept 155 = .ok (.ldc2_w 221, 3) := by decide +kernel
theorem dX12_isKept_158 : decode cX12_isKept 158 = .ok (.lcmp, 1) := by decide +kernel
theorem dX12_isKept_159 : decode cX12_isKept 159 = .ok (.ifCond .eq 19, 3) := by decide +kernel
theorem dX12_isKept_162 : decode cX12_isKept 162 = .ok (.lload_n 0, 1) := by decide +kernel
theorem dX12_isKept_163 : decode cX12_isKept 163 = .ok (.ldc2_w 223, 3) := by decide +kernel
theorem dX12_isKept_166 : decode cX12_isKept 166 = .ok (.lcmp, 1) := by decide +kernel
theorem dX12_isKept_167 : decode cX12_isKept 167 = .ok (.ifCond .eq 11, 3) := by decide +kernel
theorem dX12_isKept_170 : decode cX12_isKept 170 = .ok (.lload_n 0, 1) := by decide +kernel
theorem dX12_isKept_171 : decode cX12_isKept 171 = .ok (.ldc2_w 225, 3) := by decide +kernel
theorem dX12_isKept_174 : decode cX12_isKept 174 = .ok (.lcmp, 1) := by decide +kernel
theorem dX12_isKept_175 : decode cX12_isKept 175 = .ok (.ifCond .ne 7, 3) := by decide +kernel
theorem dX12_isKept_178 : decode cX12_isKept 178 = .ok (.iconst 1, 1) := by decide +kernel
theorem dX12_isKept_179 : decode cX12_isKept 179 = .ok (.goto 4, 3) := by decide +kernel
theorem dX12_isKept_182 : decode cX12_isKept 182 = .ok (.iconst 0, 1) := by decide +kernel
theorem dX12_isKept_183 : decode cX12_isKept 183 = .ok (.ireturn, 1) := by decide +kernel
theorem dX12_isSign_0 : decode cX12_isSign 0 = .ok (.iload_n 0, 1) := by decide +kernel
theorem dX12_isSign_1 : decode cX12_isSign 1 = .ok (.bipush 59, 2) := by decide +kernel
theorem dX12_isSign_3 : decode cX12_isSign 3 = .ok (.if_icmp .eq 63, 3) := by decide +kernel
theorem dX12_isSign_6 : decode cX12_isSign 6 = .ok (.iload_n 0, 1) := by decide +kernel
theorem dX12_isSign_7 : decode cX12_isSign 7 = .ok (.bipush 40, 2) := by decide +kernel
theorem dX12_isSign_9 : decode cX12_isSign 9 = .ok (.if_icmp .eq 57, 3) := by decide +kernel
theorem dX12_isSign_12 : decode cX12_isSign 12 = .ok (.iload_n 0, 1) := by decide +kernel
theorem dX12_isSign_13 : decode cX12_isSign 13 = .ok (.bipush 41, 2) := by decide +kernel
theorem dX12_isSign_15 : decode cX12_isSign 15 = .ok (.if_icmp .eq 51, 3) := by decide +kernel
theorem dX12_isSign_18 : decode cX12_isSign 18 = .ok (.iload_n 0, 1) := by decide +kernel
theorem dX12_isSign_19 : decode cX12_isSign 19 = .ok (.bipush 60, 2) := by decide +kernel
theorem dX12_isSign_21 : decode cX12_isSign 21 = .ok (.if_icmp .eq 45, 3) := by decide +kernel
theorem dX12_isSign_24 : decode cX12_isSign 24 = .ok (.iload_n 0, 1) := by decide +kernel
theorem dX12_isSign_25 : decode cX12_isSign 25 = .ok (.bipush 62, 2) := by decide +kernel
theorem dX12_isSign_27 : decode cX12_isSign 27 = .ok (.if_icmp .eq 39, 3) := by decide +kernel
theorem dX12_isSign_30 : decode cX12_isSign 30 = .ok (.iload_n 0, 1) := by decide +kernel
theorem dX12_isSign_31 : decode cX12_isSign 31 = .ok (.bipush 61, 2) := by decide +kernel
theorem dX12_isSign_33 : decode cX12_isSign 33 = .ok (.if_icmp .eq 33, 3) := by decide +kernel
theorem dX12_isSign_36 : decode cX12_isSign 36 = .ok (.iload_n 0, 1) := by decide +kernel
theorem dX12_isSign_37 : decode cX12_isSign 37 = .ok (.bipush 43, 2) := by decide +kernel
theorem dX12_isSign_39 : decode cX12_isSign 39 = .ok (.if_icmp .eq 27, 3) := by decide +kernel
theorem dX12_isSign_42 : decode cX12_isSign 42 = .ok (.iload_n 0, 1) := by decide +kernel
theorem dX12_isSign_43 : decode cX12_isSign 43 = .ok (.bipush 45, 2) := by decide +kernel
theorem dX12_isSign_45 : decode cX12_isSign 45 = .ok (.if_icmp .eq 21, 3) := by decide +kernel
theorem dX12_isSign_48 : decode cX12_isSign 48 = .ok (.iload_n 0, 1) := by decide +kernel
theorem dX12_isSign_49 : decode cX12_isSign 49 = .ok (.bipush 42, 2) := by decide +kernel
theorem dX12_isSign_51 : decode cX12_isSign 51 = .ok (.if_icmp .eq 15, 3) := by decide +kernel
theorem dX12_isSign_54 : decode cX12_isSign 54 = .ok (.iload_n 0, 1) := by decide +kernel
theorem dX12_isSign_55 : decode cX12_isSign 55 = .ok (.bipush 47, 2) := by decide +kernel
theorem dX12_isSign_57 : decode cX12_isSign 57 = .ok (.if_icmp .eq 9, 3) := by decide +kernel
theorem dX12_isSign_60 : decode cX12_isSign 60 = .ok (.iload_n 0, 1) := by decide +kernel
theorem dX12_isSign_61 : decode cX12_isSign 61 = .ok (.bipush 37, 2) := by decide +kernel
theorem dX12_isSign_63 : decode cX12_isSign 63 = .ok (.if_icmp .ne 7, 3) := by decide +kernel
theorem dX12_isSign_66 : decode cX12_isSign 66 = .ok (.iconst 1, 1) := by decide +kernel
theorem dX12_isSign_67 : decode cX12_isSign 67 = .ok (.goto 4, 3) := by decide +kernel
theorem dX12_isSign_70 : decode cX12_isSign 70 = .ok (.iconst 0, 1) := by decide +kernel
theorem dX12_isSign_71 : decode cX12_isSign 71 = .ok (.ireturn, 1) := by decide +kernel
theorem dX12_goOn_0 : decode cX12_goOn 0 = .ok (.aload_n 0, 1) := by decide +kernel
theorem dX12_goOn_1 : decode cX12_goOn 1 = .ok (.aload_n 0, 1) := by decide +kernel
theorem dX12_goOn_2 : decode cX12_goOn 2 = .ok (.getfield 227, 3) := by decide +kernel
theorem dX12_goOn_5 : decode cX12_goOn 5 = .ok (.putfield 230, 3) := by decide +kernel
theorem dX12_goOn_8 : decode cX12_goOn 8 = .ok (.aload_n 0, 1) := by decide +kernel
theorem dX12_goOn_9 : decode cX12_goOn 9 = .ok (.getfield 230, 3) := by decide +kernel
theorem dX12_goOn_12 : decode cX12_goOn 12 = .ok (.aload_n 0, 1) := by decide +kernel
theorem dX12_goOn_13 : decode cX12_goOn 13 = .ok (.getfield 179, 3) := by decide +kernel
theorem dX12_goOn_16 : decode cX12_goOn 16 = .ok (.if_icmp .ge 42, 3) := by decide +kernel
theorem dX12_goOn_19 : decode cX12_goOn 19 = .ok (.aload_n 0, 1) := by decide +kernel
theorem dX12_goOn_20 : decode cX12_goOn 20 = .ok (.aload_n 0, 1) := by decide +kernel
theorem dX12_goOn_21 : decode cX12_goOn 21 = .ok (.getfield 230, 3) := by decide +kernel
theorem dX12_goOn_24 : decode cX12_goOn 24 = .ok (.invokevirtual 233, 3) := by decide +kernel
theorem dX12_goOn_27 : decode cX12_goOn 27 = .ok (.bipush 32, 2) := by decide +kernel
theorem dX12_goOn_29 : decode cX12_goOn 29 = .ok (.if_icmp .eq 16, 3) := by decide +kernel
theorem dX12_goOn_32 : decode cX12_goOn 32 = .ok (.aload_n 0, 1) := by decide +kernel
theorem dX12_goOn_33 : decode cX12_goOn 33 = .ok (.aload_n 0, 1) := by decide +kernel
theorem dX12_goOn_34 : decode cX12_goOn 34 = .ok (.getfield 230, 3) := by decide +kernel
theorem dX12_goOn_37 : decode cX12_goOn 37 = .ok (.invokevirtual 233, 3) := by decide +kernel
theorem dX12_goOn_40 : decode cX12_goOn 40 = .ok (.bipush 10, 2) := by decide +kernel
theorem dX12_goOn_42 : decode cX12_goOn 42 = .ok (.if_icmp .ne 16, 3) := by decide +kernel
theorem dX12_goOn_45 : decode cX12_goOn 45 = .ok (.aload_n 0, 1) := by decide +kernel
theorem dX12_goOn_46 : decode cX12_goOn 46 = .ok (.dup, 1) := by decide +kernel
theorem dX12_goOn_47 : decode cX12_goOn 47 = .ok (.getfield 230, 3) := by decide +kernel
theorem dX12_goOn_50 : decode cX12_goOn 50 = .ok (.iconst 1, 1) := by decide +kernel
theorem dX12_goOn_51 : decode cX12_goOn 51 = .ok (.iadd, 1) := by decide +kernel
theorem dX12_goOn_52 : decode cX12_goOn 52 = .ok (.putfield 230, 3) := by decide +kernel
theorem dX12_goOn_55 : decode cX12_goOn 55 = .ok (.goto (-47), 3) := by decide +kernel
theorem dX12_goOn_58 : decode cX12_goOn 58 = .ok (.aload_n 0, 1) := by decide +kernel
theorem dX12_goOn_59 : decode cX12_goOn 59 = .ok (.aload_n 0, 1) := by decide +kernel
theorem dX12_goOn_60 : decode cX12_goOn 60 = .ok (.getfield 230, 3) := by decide +kernel
theorem dX12_goOn_63 : decode cX12_goOn 63 = .ok (.invokevirtual 233, 3) := by decide +kernel
theorem dX12_goOn_66 : decode cX12_goOn 66 = .ok (.istore_n 1, 1) := by decide +kernel
theorem dX12_goOn_67 : decode cX12_goOn 67 = .ok (.aload_n 0, 1) := by decide +kernel
theorem dX12_goOn_68 : decode cX12_goOn 68 = .ok (.aload_n 0, 1) := by decide +kernel
theorem dX12_goOn_69 : decode cX12_goOn 69 = .ok (.getfield 230, 3) := by decide +kernel
theorem dX12_goOn_72 : decode cX12_goOn 72 = .ok (.iconst 1, 1) := by decide +kernel
theorem dX12_goOn_73 : decode cX12_goOn 73 = .ok (.iadd, 1) := by decide +kernel
theorem dX12_goOn_74 : decode cX12_goOn 74 = .ok (.putfield 227, 3) := by decide +kernel
theorem dX12_goOn_77 : decode cX12_goOn 77 = .ok (.aload_n 0, 1) := by decide +kernel
theorem dX12_goOn_78 : decode cX12_goOn 78 = .ok (.getfield 230, 3) := by decide +kernel
theorem dX12_goOn_81 : decode cX12_goOn 81 = .ok (.aload_n 0, 1) := by decide +kernel
theorem dX12_goOn_82 : decode cX12_goOn 82 = .ok (.getfield 179, 3) := by decide +kernel
theorem dX12_goOn_85 : decode cX12_goOn 85 = .ok (.if_icmp .lt 27, 3) := by decide +kernel
theorem dX12_goOn_88 : decode cX12_goOn 88 = .ok (.aload_n 0, 1) := by decide +kernel
theorem dX12_goOn_89 : decode cX12_goOn 89 = .ok (.iconst 0, 1) := by decide +kernel
theorem dX12_goOn_90 : decode cX12_goOn 90 = .ok (.putfield 237, 3) := by decide +kernel
theorem dX12_goOn_93 : decode cX12_goOn 93 = .ok (.aload_n 0, 1) := by decide +kernel
theorem dX12_goOn_94 : decode cX12_goOn 94 = .ok (.aload_n 0, 1) := by decide +kernel
theorem dX12_goOn_95 : decode cX12_goOn 95 = .ok (.getfield 179, 3) := by decide +kernel
theorem dX12_goOn_98 : decode cX12_goOn 98 = .ok (.putfield 230, 3) := by decide +kernel
theorem dX12_goOn_101 : decode cX12_goOn 101 = .ok (.aload_n 0, 1) := by decide +kernel
theorem dX12_goOn_102 : decode cX12_goOn 102 = .ok (.aload_n 0, 1) := by decide +kernel
theorem dX12_goOn_103 : decode cX12_goOn 103 = .ok (.getfield 179, 3) := by decide +kernel
theorem dX12_goOn_106 : decode cX12_goOn 106 = .ok (.putfield 227, 3) := by decide +kernel
theorem dX12_goOn_109 : decode cX12_goOn 109 = .ok (.goto 268, 3) := by decide +kernel
theorem dX12_goOn_112 : decode cX12_goOn 112 = .ok (.iload_n 1, 1) := by decide +kernel
theorem dX12_goOn_113 : decode cX12_goOn 113 = .ok (.invokestatic 240, 3) := by decide +kernel
theorem dX12_goOn_116 : decode cX12_goOn 116 = .ok (.ifCond .eq 123, 3) := by decide +kernel
theorem dX12_goOn_119 : decode cX12_goOn 119 = .ok (.aload_n 0, 1) := by decide +kernel
theorem dX12_goOn_120 : decode cX12_goOn 120 = .ok (.aload_n 0, 1) := by decide +kernel
theorem dX12_goOn_121 : decode cX12_goOn 121 = .ok (.getfield 227, 3) := by decide +kernel
theorem dX12_goOn_124 : decode cX12_goOn 124 = .ok (.invokevirtual 233, 3) := by decide +kernel
theorem dX12_goOn_127 : decode cX12_goOn 127 = .ok (.invokestatic 240, 3) := by decide +kernel
theorem dX12_goOn_130 : decode cX12_goOn 130 = .ok (.ifCond .eq 16, 3) := by decide +kernel
theorem dX12_goOn_133 : decode cX12_goOn 133 = .ok (.aload_n 0, 1) := by decide +kernel
theorem dX12_goOn_134 : decode cX12_goOn 134 = .ok (.dup, 1) := by decide +kernel
theorem dX12_goOn_135 : decode cX12_goOn 135 = .ok (.getfield 227, 3) := by decide +kernel
theorem dX12_goOn_138 : decode cX12_goOn 138 = .ok (.iconst 1, 1) := by decide +kernel
theorem dX12_goOn_139 : decode cX12_goOn 139 = .ok (.iadd, 1) := by decide +kernel
theorem dX12_goOn_140 : decode cX12_goOn 140 = .ok (.putfield 227, 3) := by decide +kernel
theorem dX12_goOn_143 : decode cX12_goOn 143 = .ok (.goto (-24), 3) := by decide +kernel
theorem dX12_goOn_146 : decode cX12_goOn 146 = .ok (.aload_n 0, 1) := by decide +kernel
theorem dX12_goOn_147 : decode cX12_goOn 147 = .ok (.lconst 0, 1) := by decide +kernel
theorem dX12_goOn_148 : decode cX12_goOn 148 = .ok (.putfield 244, 3) := by decide +kernel
theorem dX12_goOn_151 : decode cX12_goOn 151 = .ok (.aload_n 0, 1) := by decide +kernel
theorem dX12_goOn_152 : decode cX12_goOn 152 = .ok (.getfield 230, 3) := by decide +kernel
theorem dX12_goOn_155 : decode cX12_goOn 155 = .ok (.istore_n 2, 1) := by decide +kernel
theorem dX12_goOn_156 : decode cX12_goOn 156 = .ok (.iload_n 2, 1) := by decide +kernel
theorem dX12_goOn_157 : decode cX12_goOn 157 = .ok (.aload_n 0, 1) := by decide +kernel
theorem dX12_goOn_158 : decode cX12_goOn 158 = .ok (.getfield 227, 3) := by decide +kernel
theorem dX12_goOn_161 : decode cX12_goOn 161 = .ok (.if_icmp .ge 38, 3) := by decide +kernel
theorem dX12_goOn_164 : decode cX12_goOn 164 = .ok (.iload_n 2, 1) := by decide +kernel
theorem dX12_goOn_165 : decode cX12_goOn 165 = .ok (.aload_n 0, 1) := by decide +kernel
theorem dX12_goOn_166 : decode cX12_goOn 166 = .ok (.getfield 230, 3) := by decide +kernel
theorem dX12_goOn_169 : decode cX12_goOn 169 = .ok (.bipush 8, 2) := by decide +kernel
theorem dX12_goOn_171 : decode cX12_goOn 171 = .ok (.iadd, 1) := by decide +kernel
theorem dX12_goOn_172 : decode cX12_goOn 172 = .ok (.if_icmp .ge 27, 3) := by decide +kernel
theorem dX12_goOn_175 : decode cX12_goOn 175 = .ok (.aload_n 0, 1) := by decide +kernel
theorem dX12_goOn_176 : decode cX12_goOn 176 = .ok (.aload_n 0, 1) := by decide +kernel
theorem dX12_goOn_177 : decode cX12_goOn 177 = .ok (.getfield 244, 3) := by decide +kernel
theorem dX12_goOn_180 : decode cX12_goOn 180 = .ok (.bipush 8, 2) := by decide +kernel
theorem dX12_goOn_182 : decode cX12_goOn 182 = .ok (.lshl, 1) := by decide +kernel
theorem dX12_goOn_183 : decode cX12_goOn 183 = .ok (.aload_n 0, 1) := by decide +kernel
theorem dX12_goOn_184 : decode cX12_goOn 184 = .ok (.iload_n 2, 1) := by decide +kernel
theorem dX12_goOn_185 : decode cX12_goOn 185 = .ok (.invokevirtual 233, 3) := by decide +kernel
theorem dX12_goOn_188 : decode cX12_goOn 188 = .ok (.i2l, 1) := by decide +kernel
theorem dX12_goOn_189 : decode cX12_goOn 189 = .ok (.lor, 1) := by decide +kernel
theorem dX12_goOn_190 : decode cX12_goOn 190 = .ok (.putfield 244, 3) := by decide +kernel
theorem dX12_goOn_193 : decode cX12_goOn 193 = .ok (.iinc 2 1, 3) := by decide +kernel
theorem dX12_goOn_196 : decode cX12_goOn 196 = .ok (.goto (-40), 3) := by decide +kernel
theorem dX12_goOn_199 : decode cX12_goOn 199 = .ok (.aload_n 0, 1) := by decide +kernel
theorem dX12_goOn_200 : decode cX12_goOn 200 = .ok (.aload_n 0, 1) := by decide +kernel
theorem dX12_goOn_201 : decode cX12_goOn 201 = .ok (.getfield 227, 3) := by decide +kernel
theorem dX12_goOn_204 : decode cX12_goOn 204 = .ok (.aload_n 0, 1) := by decide +kernel
theorem dX12_goOn_205 : decode cX12_goOn 205 = .ok (.getfield 230, 3) := by decide +kernel
theorem dX12_goOn_208 : decode cX12_goOn 208 = .ok (.isub, 1) := by decide +kernel
theorem dX12_goOn_209 : decode cX12_goOn 209 = .ok (.bipush 8, 2) := by decide +kernel
theorem dX12_goOn_211 : decode cX12_goOn 211 = .ok (.if_icmp .le 7, 3) := by decide +kernel
theorem dX12_goOn_214 : decode cX12_goOn 214 = .ok (.iconst 1, 1) := by decide +kernel
theorem dX12_goOn_215 : decode cX12_goOn 215 = .ok (.goto 18, 3) := by decide +kernel
theorem dX12_goOn_218 : decode cX12_goOn 218 = .ok (.aload_n 0, 1) := by decide +kernel
theorem dX12_goOn_219 : decode cX12_goOn 219 = .ok (.getfield 244, 3) := by decide +kernel
theorem dX12_goOn_222 : decode cX12_goOn 222 = .ok (.invokestatic 248, 3) := by decide +kernel
theorem dX12_goOn_225 : decode cX12_goOn 225 = .ok (.ifCond .eq 7, 3) := by decide +kernel
theorem dX12_goOn_228 : decode cX12_goOn 228 = .ok (.iconst 3, 1) := by decide +kernel
theorem dX12_goOn_229 : decode cX12_goOn 229 = .ok (.goto 4, 3) := by decide +kernel
theorem dX12_goOn_232 : decode cX12_goOn 232 = .ok (.iconst 2, 1) := by decide +kernel
theorem dX12_goOn_233 : decode cX12_goOn 233 = .ok (.putfield 237, 3) := by decide +kernel
theorem dX12_goOn_236 : decode cX12_goOn 236 = .ok (.goto 141, 3) := by decide +kernel
theorem dX12_goOn_239 : decode cX12_goOn 239 = .ok (.iload_n 1, 1) := by decide +kernel
theorem dX12_goOn_240 : decode cX12_goOn 240 = .ok (.invokestatic 252, 3) := by decide +kernel
theorem dX12_goOn_243 : decode cX12_goOn 243 = .ok (.ifCond .eq 118, 3) := by decide +kernel
theorem dX12_goOn_246 : decode cX12_goOn 246 = .ok (.aload_n 0, 1) := by decide +kernel
theorem dX12_goOn_247 : decode cX12_goOn 247 = .ok (.iconst 0, 1) := by decide +kernel
theorem dX12_goOn_248 : decode cX12_goOn 248 = .ok (.putfield 255, 3) := by decide +kernel
theorem dX12_goOn_251 : decode cX12_goOn 251 = .ok (.aload_n 0, 1) := by decide +kernel
theorem dX12_goOn_252 : decode cX12_goOn 252 = .ok (.aload_n 0, 1) := by decide +kernel
theorem dX12_goOn_253 : decode cX12_goOn 253 = .ok (.getfield 230, 3) := by decide +kernel
theorem dX12_goOn_256 : decode cX12_goOn 256 = .ok (.putfield 227, 3) := by decide +kernel
theorem dX12_goOn_259 : decode cX12_goOn 259 = .ok (.aload_n 0, 1) := by decide +kernel
theorem dX12_goOn_260 : decode cX12_goOn 260 = .ok (.aload_n 0, 1) := by decide +kernel
theorem dX12_goOn_261 : decode cX12_goOn 261 = .ok (.getfield 227, 3) := by decide +kernel
theorem dX12_goOn_264 : decode cX12_goOn 264 = .ok (.invokevirtual 233, 3) := by decide +kernel
theorem dX12_goOn_267 : decode cX12_goOn 267 = .ok (.invokestatic 252, 3) := by decide +kernel
theorem dX12_goOn_270 : decode cX12_goOn 270 = .ok (.ifCond .eq 52, 3) := by decide +kernel
theorem dX12_goOn_273 : decode cX12_goOn 273 = .ok (.aload_n 0, 1) := by decide +kernel
theorem dX12_goOn_274 : decode cX12_goOn 274 = .ok (.getfield 227, 3) := by decide +kernel
theorem dX12_goOn_277 : decode cX12_goOn 277 = .ok (.aload_n 0, 1) := by decide +kernel
theorem dX12_goOn_278 : decode cX12_goOn 278 = .ok (.getfield 230, 3) := by decide +kernel
theorem dX12_goOn_281 : decode cX12_goOn 281 = .ok (.isub, 1) := by decide +kernel
theorem dX12_goOn_282 : decode cX12_goOn 282 = .ok (.iconst 4, 1) := by decide +kernel
theorem dX12_goOn_283 : decode cX12_goOn 283 = .ok (.if_icmp .ge 26, 3) := by decide +kernel
theorem dX12_goOn_286 : decode cX12_goOn 286 = .ok (.aload_n 0, 1) := by decide +kernel
theorem dX12_goOn_287 : decode cX12_goOn 287 = .ok (.bipush 10, 2) := by decide +kernel
theorem dX12_goOn_289 : decode cX12_goOn 289 = .ok (.aload_n 0, 1) := by decide +kernel
theorem dX12_goOn_290 : decode cX12_goOn 290 = .ok (.getfield 255, 3) := by decide +kernel
theorem dX12_goOn_293 : decode cX12_goOn 293 = .ok (.imul, 1) := by decide +kernel
theorem dX12_goOn_294 : decode cX12_goOn 294 = .ok (.aload_n 0, 1) := by decide +kernel
theorem dX12_goOn_295 : decode cX12_goOn 295 = .ok (.aload_n 0, 1) := by decide +kernel
theorem dX12_goOn_296 : decode cX12_goOn 296 = .ok (.getfield 227, 3) := by decide +kernel
theorem dX12_goOn_299 : decode cX12_goOn 299 = .ok (.invokevirtual 233, 3) := by decide +kernel
theorem dX12_goOn_302 : decode cX12_goOn 302 = .ok (.iadd, 1) := by decide +kernel
theorem dX12_goOn_303 : decode cX12_goOn 303 = .ok (.bipush 48, 2) := by decide +kernel
theorem dX12_goOn_305 : decode cX12_goOn 305 = .ok (.isub, 1) := by decide +kernel
theorem dX12_goOn_306 : decode cX12_goOn 306 = .ok (.putfield 255, 3) := by decide +kernel
theorem dX12_goOn_309 : decode cX12_goOn 309 = .ok (.aload_n 0, 1) := by decide +kernel
theorem dX12_goOn_310 : decode cX12_goOn 310 = .ok (.dup, 1) := by decide +kernel
theorem dX12_goOn_311 : decode cX12_goOn 311 = .ok (.getfield 227, 3) := by decide +kernel
theorem dX12_goOn_314 : decode cX12_goOn 314 = .ok (.iconst 1, 1) := by decide +kernel
theorem dX12_goOn_315 : decode cX12_goOn 315 = .ok (.iadd, 1) := by decide +kernel
theorem dX12_goOn_316 : decode cX12_goOn 316 = .ok (.putfield 227, 3) := by decide +kernel
theorem dX12_goOn_319 : decode cX12_goOn 319 = .ok (.goto (-60), 3) := by decide +kernel
theorem dX12_goOn_322 : decode cX12_goOn 322 = .ok (.aload_n 0, 1) := by decide +kernel
theorem dX12_goOn_323 : decode cX12_goOn 323 = .ok (.aload_n 0, 1) := by decide +kernel
theorem dX12_goOn_324 : decode cX12_goOn 324 = .ok (.getfield 227, 3) := by decide +kernel
theorem dX12_goOn_327 : decode cX12_goOn 327 = .ok (.aload_n 0, 1) := by decide +kernel
theorem dX12_goOn_328 : decode cX12_goOn 328 = .ok (.getfield 230, 3) := by decide +kernel
theorem dX12_goOn_331 : decode cX12_goOn 331 = .ok (.isub, 1) := by decide +kernel
theorem dX12_goOn_332 : decode cX12_goOn 332 = .ok (.iconst 4, 1) := by decide +kernel
theorem dX12_goOn_333 : decode cX12_goOn 333 = .ok (.if_icmp .gt 17, 3) := by decide +kernel
theorem dX12_goOn_336 : decode cX12_goOn 336 = .ok (.aload_n 0, 1) := by decide +kernel
theorem dX12_goOn_337 : decode cX12_goOn 337 = .ok (.aload_n 0, 1) := by decide +kernel
theorem dX12_goOn_338 : decode cX12_goOn 338 = .ok (.getfield 227, 3) := by decide +kernel
theorem dX12_goOn_341 : decode cX12_goOn 341 = .ok (.invokevirtual 233, 3) := by decide +kernel
theorem dX12_goOn_344 : decode cX12_goOn 344 = .ok (.invokestatic 240, 3) := by decide +kernel
theorem dX12_goOn_347 : decode cX12_goOn 347 = .ok (.ifCond .eq 7, 3) := by decide +kernel
theorem dX12_goOn_350 : decode cX12_goOn 350 = .ok (.iconst 1, 1) := by decide +kernel
theorem dX12_goOn_351 : decode cX12_goOn 351 = .ok (.goto 4, 3) := by decide +kernel
theorem dX12_goOn_354 : decode cX12_goOn 354 = .ok (.iconst 4, 1) := by decide +kernel
theorem dX12_goOn_355 : decode cX12_goOn 355 = .ok (.putfield 237, 3) := by decide +kernel
theorem dX12_goOn_358 : decode cX12_goOn 358 = .ok (.goto 19, 3) := by decide +kernel
theorem dX12_goOn_361 : decode cX12_goOn 361 = .ok (.aload_n 0, 1) := by decide +kernel
theorem dX12_goOn_362 : decode cX12_goOn 362 = .ok (.iload_n 1, 1) := by decide +kernel
theorem dX12_goOn_363 : decode cX12_goOn 363 = .ok (.invokestatic 258, 3) := by decide +kernel
theorem dX12_goOn_366 : decode cX12_goOn 366 = .ok (.ifCond .eq 7, 3) := by decide +kernel
theorem dX12_goOn_369 : decode cX12_goOn 369 = .ok (.iconst 5, 1) := by decide +kernel
theorem dX12_goOn_370 : decode cX12_goOn 370 = .ok (.goto 4, 3) := by decide +kernel
theorem dX12_goOn_373 : decode cX12_goOn 373 = .ok (.iconst 1, 1) := by decide +kernel
theorem dX12_goOn_374 : decode cX12_goOn 374 = .ok (.putfield 237, 3) := by decide +kernel
theorem dX12_goOn_377 : decode cX12_goOn 377 = .ok (.return_, 1) := by decide +kernel
theorem dX12_isSignHere_0 : decode cX12_isSignHere 0 = .ok (.aload_n 0, 1) := by decide +kernel
theorem dX12_isSignHere_1 : decode cX12_isSignHere 1 = .ok (.getfield 237, 3) := by decide +kernel
theorem dX12_isSignHere_4 : decode cX12_isSignHere 4 = .ok (.iconst 5, 1) := by decide +kernel
theorem dX12_isSignHere_5 : decode cX12_isSignHere 5 = .ok (.if_icmp .ne 19, 3) := by decide +kernel
theorem dX12_isSignHere_8 : decode cX12_isSignHere 8 = .ok (.aload_n 0, 1) := by decide +kernel
theorem dX12_isSignHere_9 : decode cX12_isSignHere 9 = .ok (.aload_n 0, 1) := by decide +kernel
theorem dX12_isSignHere_10 : decode cX12_isSignHere 10 = .ok (.getfield 230, 3) := by decide +kernel
theorem dX12_isSignHere_13 : decode cX12_isSignHere 13 = .ok (.invokevirtual 233, 3) := by decide +kernel
theorem dX12_isSignHere_16 : decode cX12_isSignHere 16 = .ok (.iload_n 1, 1) := by decide +kernel
theorem dX12_isSignHere_17 : decode cX12_isSignHere 17 = .ok (.if_icmp .ne 7, 3) := by decide +kernel
theorem dX12_isSignHere_20 : decode cX12_isSignHere 20 = .ok (.iconst 1, 1) := by decide +kernel
theorem dX12_isSignHere_21 : decode cX12_isSignHere 21 = .ok (.goto 4, 3) := by decide +kernel
theorem dX12_isSignHere_24 : decode cX12_isSignHere 24 = .ok (.iconst 0, 1) := by decide +kernel
theorem dX12_isSignHere_25 : decode cX12_isSignHere 25 = .ok (.ireturn, 1) := by decide +kernel
theorem dX12_isWord_0 : decode cX12_isWord 0 = .ok (.aload_n 0, 1) := by decide +kernel
theorem dX12_isWord_1 : decode cX12_isWord 1 = .ok (.getfield 237, 3) := by decide +kernel
theorem dX12_isWord_4 : decode cX12_isWord 4 = .ok (.iconst 3, 1) := by decide +kernel
theorem dX12_isWord_5 : decode cX12_isWord 5 = .ok (.if_icmp .ne 16, 3) := by decide +kernel
theorem dX12_isWord_8 : decode cX12_isWord 8 = .ok (.aload_n 0, 1) := by decide +kernel
theorem dX12_isWord_9 : decode cX12_isWord 9 = .ok (.getfield 244, 3) := by decide +kernel
theorem dX12_isWord_12 : decode cX12_isWord 12 = .ok (.lload_n 1, 1) := by decide +kernel
theorem dX12_isWord_13 : decode cX12_isWord 13 = .ok (.lcmp, 1) := by decide +kernel
theorem dX12_isWord_14 : decode cX12_isWord 14 = .ok (.ifCond .ne 7, 3) := by decide +kernel
theorem dX12_isWord_17 : decode cX12_isWord 17 = .ok (.iconst 1, 1) := by decide +kernel
theorem dX12_isWord_18 : decode cX12_isWord 18 = .ok (.goto 4, 3) := by decide +kernel
theorem dX12_isWord_21 : decode cX12_isWord 21 = .ok (.iconst 0, 1) := by decide +kernel
theorem dX12_isWord_22 : decode cX12_isWord 22 = .ok (.ireturn, 1) := by decide +kernel
theorem dX12_misplaced_0 : decode cX12_misplaced 0 = .ok (.aload_n 0, 1) := by decide +kernel
theorem dX12_misplaced_1 : decode cX12_misplaced 1 = .ok (.aload_n 0, 1) := by decide +kernel
theorem dX12_misplaced_2 : decode cX12_misplaced 2 = .ok (.getfield 237, 3) := by decide +kernel
theorem dX12_misplaced_5 : decode cX12_misplaced 5 = .ok (.iconst 1, 1) := by decide +kernel
theorem dX12_misplaced_6 : decode cX12_misplaced 6 = .ok (.if_icmp .ne 7, 3) := by decide +kernel
theorem dX12_misplaced_9 : decode cX12_misplaced 9 = .ok (.iconst 1, 1) := by decide +kernel
theorem dX12_misplaced_10 : decode cX12_misplaced 10 = .ok (.goto 4, 3) := by decide +kernel
theorem dX12_misplaced_13 : decode cX12_misplaced 13 = .ok (.iconst 2, 1) := by decide +kernel
theorem dX12_misplaced_14 : decode cX12_misplaced 14 = .ok (.aload_n 0, 1) := by decide +kernel
theorem dX12_misplaced_15 : decode cX12_misplaced 15 = .ok (.getfield 230, 3) := by decide +kernel
theorem dX12_misplaced_18 : decode cX12_misplaced 18 = .ok (.invokevirtual 261, 3) := by decide +kernel
theorem dX12_misplaced_21 : decode cX12_misplaced 21 = .ok (.return_, 1) := by decide +kernel
theorem dX12_must_0 : decode cX12_must 0 = .ok (.aload_n 0, 1) := by decide +kernel
theorem dX12_must_1 : decode cX12_must 1 = .ok (.invokevirtual 265, 3) := by decide +kernel
theorem dX12_must_4 : decode cX12_must 4 = .ok (.ifCond .ne 4, 3) := by decide +kernel
theorem dX12_must_7 : decode cX12_must 7 = .ok (.return_, 1) := by decide +kernel
theorem dX12_must_8 : decode cX12_must 8 = .ok (.iload_n 1, 1) := by decide +kernel
theorem dX12_must_9 : decode cX12_must 9 = .ok (.ifCond .eq 10, 3) := by decide +kernel
theorem dX12_must_12 : decode cX12_must 12 = .ok (.aload_n 0, 1) := by decide +kernel
theorem dX12_must_13 : decode cX12_must 13 = .ok (.invokevirtual 269, 3) := by decide +kernel
theorem dX12_must_16 : decode cX12_must 16 = .ok (.goto 7, 3) := by decide +kernel
theorem dX12_must_19 : decode cX12_must 19 = .ok (.aload_n 0, 1) := by decide +kernel
theorem dX12_must_20 : decode cX12_must 20 = .ok (.invokevirtual 272, 3) := by decide +kernel
theorem dX12_must_23 : decode cX12_must 23 = .ok (.return_, 1) := by decide +kernel
theorem dX12_numeral_0 : decode cX12_numeral 0 = .ok (.aload_n 0, 1) := by decide +kernel
theorem dX12_numeral_1 : decode cX12_numeral 1 = .ok (.invokevirtual 265, 3) := by decide +kernel
theorem dX12_numeral_4 : decode cX12_numeral 4 = .ok (.ifCond .ne 5, 3) := by decide +kernel
theorem dX12_numeral_7 : decode cX12_numeral 7 = .ok (.iload_n 1, 1) := by decide +kernel
theorem dX12_numeral_8 : decode cX12_numeral 8 = .ok (.ireturn, 1) := by decide +kernel
theorem dX12_numeral_9 : decode cX12_numeral 9 = .ok (.aload_n 0, 1) := by decide +kernel
theorem dX12_numeral_10 : decode cX12_numeral 10 = .ok (.getfield 237, 3) := by decide +kernel
theorem dX12_numeral_13 : decode cX12_numeral 13 = .ok (.iconst 4, 1) := by decide +kernel
theorem dX12_numeral_14 : decode cX12_numeral 14 = .ok (.if_icmp .eq 7, 3) := by decide +kernel
theorem dX12_numeral_17 : decode cX12_numeral 17 = .ok (.aload_n 0, 1) := by decide +kernel
theorem dX12_numeral_18 : decode cX12_numeral 18 = .ok (.invokevirtual 272, 3) := by decide +kernel
theorem dX12_numeral_21 : decode cX12_numeral 21 = .ok (.aload_n 0, 1) := by decide +kernel
theorem dX12_numeral_22 : decode cX12_numeral 22 = .ok (.invokevirtual 265, 3) := by decide +kernel
theorem dX12_numeral_25 : decode cX12_numeral 25 = .ok (.ifCond .eq 28, 3) := by decide +kernel
theorem dX12_numeral_28 : decode cX12_numeral 28 = .ok (.aload_n 0, 1) := by decide +kernel
theorem dX12_numeral_29 : decode cX12_numeral 29 = .ok (.getfield 255, 3) := by decide +kernel
theorem dX12_numeral_32 : decode cX12_numeral 32 = .ok (.iload_n 1, 1) := by decide +kernel
theorem dX12_numeral_33 : decode cX12_numeral 33 = .ok (.if_icmp .lt 11, 3) := by decide +kernel
theorem dX12_numeral_36 : decode cX12_numeral 36 = .ok (.aload_n 0, 1) := by decide +kernel
theorem dX12_numeral_37 : decode cX12_numeral 37 = .ok (.getfield 255, 3) := by decide +kernel
theorem dX12_numeral_40 : decode cX12_numeral 40 = .ok (.iload_n 2, 1) := by decide +kernel
theorem dX12_numeral_41 : decode cX12_numeral 41 = .ok (.if_icmp .le 12, 3) := by decide +kernel
theorem dX12_numeral_44 : decode cX12_numeral 44 = .ok (.aload_n 0, 1) := by decide +kernel
theorem dX12_numeral_45 : decode cX12_numeral 45 = .ok (.iconst 4, 1) := by decide +kernel
theorem dX12_numeral_46 : decode cX12_numeral 46 = .ok (.aload_n 0, 1) := by decide +kernel
theorem dX12_numeral_47 : decode cX12_numeral 47 = .ok (.getfield 230, 3) := by decide +kernel
theorem dX12_numeral_50 : decode cX12_numeral 50 = .ok (.invokevirtual 261, 3) := by decide +kernel
theorem dX12_numeral_53 : decode cX12_numeral 53 = .ok (.aload_n 0, 1) := by decide +kernel
theorem dX12_numeral_54 : decode cX12_numeral 54 = .ok (.getfield 255, 3) := by decide +kernel
theorem dX12_numeral_57 : decode cX12_numeral 57 = .ok (.istore_n 3, 1) := by decide +kernel
theorem dX12_numeral_58 : decode cX12_numeral 58 = .ok (.aload_n 0, 1) := by decide +kernel
theorem dX12_numeral_59 : decode cX12_numeral 59 = .ok (.invokevirtual 265, 3) := by decide +kernel
theorem dX12_numeral_62 : decode cX12_numeral 62 = .ok (.ifCond .eq 7, 3) := by decide +kernel
theorem dX12_numeral_65 : decode cX12_numeral 65 = .ok (.aload_n 0, 1) := by decide +kernel
theorem dX12_numeral_66 : decode cX12_numeral 66 = .ok (.invokevirtual 269, 3) := by decide +kernel
theorem dX12_numeral_69 : decode cX12_numeral 69 = .ok (.aload_n 0, 1) := by decide +kernel
theorem dX12_numeral_70 : decode cX12_numeral 70 = .ok (.invokevirtual 265, 3) := by decide +kernel
theorem dX12_numeral_73 : decode cX12_numeral 73 = .ok (.ifCond .eq 7, 3) := by decide +kernel
theorem dX12_numeral_76 : decode cX12_numeral 76 = .ok (.iload_n 3, 1) := by decide +kernel
theorem dX12_numeral_77 : decode cX12_numeral 77 = .ok (.goto 4, 3) := by decide +kernel
theorem dX12_numeral_80 : decode cX12_numeral 80 = .ok (.iload_n 1, 1) := by decide +kernel
theorem dX12_numeral_81 : decode cX12_numeral 81 = .ok (.ireturn, 1) := by decide +kernel
theorem dX12_after_0 : decode cX12_after 0 = .ok (.aload_n 0, 1) := by decide +kernel
theorem dX12_after_1 : decode cX12_after 1 = .ok (.aload_n 0, 1) := by decide +kernel
theorem dX12_after_2 : decode cX12_after 2 = .ok (.lload_n 1, 1) := by decide +kernel
theorem dX12_after_3 : decode cX12_after 3 = .ok (.invokevirtual 275, 3) := by decide +kernel
theorem dX12_after_6 : decode cX12_after 6 = .ok (.invokevirtual 278, 3) := by decide +kernel
theorem dX12_after_9 : decode cX12_after 9 = .ok (.aload_n 0, 1) := by decide +kernel
theorem dX12_after_10 : decode cX12_after 10 = .ok (.iload_n 3, 1) := by decide +kernel
theorem dX12_after_11 : decode cX12_after 11 = .ok (.iload 4, 2) := by decide +kernel
theorem dX12_after_13 : decode cX12_after 13 = .ok (.invokevirtual 282, 3) := by decide +kernel
theorem dX12_after_16 : decode cX12_after 16 = .ok (.ireturn, 1) := by decide +kernel
theorem dX12_clearBank_0 : decode cX12_clearBank 0 = .ok (.aload_n 0, 1) := by decide +kernel
theorem dX12_clearBank_1 : decode cX12_clearBank 1 = .ok (.getfield 20, 3) := by decide +kernel
theorem dX12_clearBank_4 : decode cX12_clearBank 4 = .ok (.aload_n 0, 1) := by decide +kernel
theorem dX12_clearBank_5 : decode cX12_clearBank 5 = .ok (.getfield 286, 3) := by decide +kernel
theorem dX12_clearBank_8 : decode cX12_clearBank 8 = .ok (.iconst 0, 1) := by decide +kernel
theorem dX12_clearBank_9 : decode cX12_clearBank 9 = .ok (.iastore, 1) := by decide +kernel
theorem dX12_clearBank_10 : decode cX12_clearBank 10 = .ok (.aload_n 0, 1) := by decide +kernel
theorem dX12_clearBank_11 : decode cX12_clearBank 11 = .ok (.getfield 24, 3) := by decide +kernel
theorem dX12_clearBank_14 : decode cX12_clearBank 14 = .ok (.aload_n 0, 1) := by decide +kernel
theorem dX12_clearBank_15 : decode cX12_clearBank 15 = .ok (.getfield 286, 3) := by decide +kernel
theorem dX12_clearBank_18 : decode cX12_clearBank 18 = .ok (.iconst 0, 1) := by decide +kernel
theorem dX12_clearBank_19 : decode cX12_clearBank 19 = .ok (.iastore, 1) := by decide +kernel
theorem dX12_clearBank_20 : decode cX12_clearBank 20 = .ok (.aload_n 0, 1) := by decide +kernel
theorem dX12_clearBank_21 : decode cX12_clearBank 21 = .ok (.getfield 27, 3) := by decide +kernel
theorem dX12_clearBank_24 : decode cX12_clearBank 24 = .ok (.aload_n 0, 1) := by decide +kernel
theorem dX12_clearBank_25 : decode cX12_clearBank 25 = .ok (.getfield 286, 3) := by decide +kernel
theorem dX12_clearBank_28 : decode cX12_clearBank 28 = .ok (.iconst 0, 1) := by decide +kernel
theorem dX12_clearBank_29 : decode cX12_clearBank 29 = .ok (.iastore, 1) := by decide +kernel
theorem dX12_clearBank_30 : decode cX12_clearBank 30 = .ok (.aload_n 0, 1) := by decide +kernel
theorem dX12_clearBank_31 : decode cX12_clearBank 31 = .ok (.getfield 30, 3) := by decide +kernel
theorem dX12_clearBank_34 : decode cX12_clearBank 34 = .ok (.aload_n 0, 1) := by decide +kernel
theorem dX12_clearBank_35 : decode cX12_clearBank 35 = .ok (.getfield 286, 3) := by decide +kernel
theorem dX12_clearBank_38 : decode cX12_clearBank 38 = .ok (.iconst 0, 1) := by decide +kernel
theorem dX12_clearBank_39 : decode cX12_clearBank 39 = .ok (.iastore, 1) := by decide +kernel
theorem dX12_clearBank_40 : decode cX12_clearBank 40 = .ok (.aload_n 0, 1) := by decide +kernel
theorem dX12_clearBank_41 : decode cX12_clearBank 41 = .ok (.getfield 33, 3) := by decide +kernel
theorem dX12_clearBank_44 : decode cX12_clearBank 44 = .ok (.aload_n 0, 1) := by decide +kernel
theorem dX12_clearBank_45 : decode cX12_clearBank 45 = .ok (.getfield 286, 3) := by decide +kernel
theorem dX12_clearBank_48 : decode cX12_clearBank 48 = .ok (.iconst 0, 1) := by decide +kernel
theorem dX12_clearBank_49 : decode cX12_clearBank 49 = .ok (.iastore, 1) := by decide +kernel
theorem dX12_clearBank_50 : decode cX12_clearBank 50 = .ok (.aload_n 0, 1) := by decide +kernel
theorem dX12_clearBank_51 : decode cX12_clearBank 51 = .ok (.getfield 36, 3) := by decide +kernel
theorem dX12_clearBank_54 : decode cX12_clearBank 54 = .ok (.aload_n 0, 1) := by decide +kernel
theorem dX12_clearBank_55 : decode cX12_clearBank 55 = .ok (.getfield 286, 3) := by decide +kernel
theorem dX12_clearBank_58 : decode cX12_clearBank 58 = .ok (.iconst 0, 1) := by decide +kernel
theorem dX12_clearBank_59 : decode cX12_clearBank 59 = .ok (.iastore, 1) := by decide +kernel
theorem dX12_clearBank_60 : decode cX12_clearBank 60 = .ok (.aload_n 0, 1) := by decide +kernel
theorem dX12_clearBank_61 : decode cX12_clearBank 61 = .ok (.getfield 78, 3) := by decide +kernel
theorem dX12_clearBank_64 : decode cX12_clearBank 64 = .ok (.aload_n 0, 1) := by decide +kernel
theorem dX12_clearBank_65 : decode cX12_clearBank 65 = .ok (.getfield 286, 3) := by decide +kernel
theorem dX12_clearBank_68 : decode cX12_clearBank 68 = .ok (.iconst 0, 1) := by decide +kernel
theorem dX12_clearBank_69 : decode cX12_clearBank 69 = .ok (.bastore, 1) := by decide +kernel
theorem dX12_clearBank_70 : decode cX12_clearBank 70 = .ok (.aload_n 0, 1) := by decide +kernel
theorem dX12_clearBank_71 : decode cX12_clearBank 71 = .ok (.getfield 82, 3) := by decide +kernel
theorem dX12_clearBank_74 : decode cX12_clearBank 74 = .ok (.iconst 2, 1) := by decide +kernel
theorem dX12_clearBank_75 : decode cX12_clearBank 75 = .ok (.aload_n 0, 1) := by decide +kernel
theorem dX12_clearBank_76 : decode cX12_clearBank 76 = .ok (.getfield 286, 3) := by decide +kernel
theorem dX12_clearBank_79 : decode cX12_clearBank 79 = .ok (.imul, 1) := by decide +kernel
theorem dX12_clearBank_80 : decode cX12_clearBank 80 = .ok (.iconst 0, 1) := by decide +kernel
theorem dX12_clearBank_81 : decode cX12_clearBank 81 = .ok (.bastore, 1) := by decide +kernel
theorem dX12_clearBank_82 : decode cX12_clearBank 82 = .ok (.aload_n 0, 1) := by decide +kernel
theorem dX12_clearBank_83 : decode cX12_clearBank 83 = .ok (.getfield 82, 3) := by decide +kernel
theorem dX12_clearBank_86 : decode cX12_clearBank 86 = .ok (.iconst 2, 1) := by decide +kernel
theorem dX12_clearBank_87 : decode cX12_clearBank 87 = .ok (.aload_n 0, 1) := by decide +kernel
theorem dX12_clearBank_88 : decode cX12_clearBank 88 = .ok (.getfield 286, 3) := by decide +kernel
theorem dX12_clearBank_91 : decode cX12_clearBank 91 = .ok (.imul, 1) := by decide +kernel
theorem dX12_clearBank_92 : decode cX12_clearBank 92 = .ok (.iconst 1, 1) := by decide +kernel
theorem dX12_clearBank_93 : decode cX12_clearBank 93 = .ok (.iadd, 1) := by decide +kernel
theorem dX12_clearBank_94 : decode cX12_clearBank 94 = .ok (.iconst 0, 1) := by decide +kernel
theorem dX12_clearBank_95 : decode cX12_clearBank 95 = .ok (.bastore, 1) := by decide +kernel
theorem dX12_clearBank_96 : decode cX12_clearBank 96 = .ok (.aload_n 0, 1) := by decide +kernel
theorem dX12_clearBank_97 : decode cX12_clearBank 97 = .ok (.sipush 560, 3) := by decide +kernel
theorem dX12_clearBank_100 : decode cX12_clearBank 100 = .ok (.aload_n 0, 1) := by decide +kernel
theorem dX12_clearBank_101 : decode cX12_clearBank 101 = .ok (.getfield 286, 3) := by decide +kernel
theorem dX12_clearBank_104 : decode cX12_clearBank 104 = .ok (.imul, 1) := by decide +kernel
theorem dX12_clearBank_105 : decode cX12_clearBank 105 = .ok (.putfield 289, 3) := by decide +kernel
theorem dX12_clearBank_108 : decode cX12_clearBank 108 = .ok (.return_, 1) := by decide +kernel
theorem dX12_land_0 : decode cX12_land 0 = .ok (.aload_n 0, 1) := by decide +kernel
theorem dX12_land_1 : decode cX12_land 1 = .ok (.iconst 0, 1) := by decide +kernel
theorem dX12_land_2 : decode cX12_land 2 = .ok (.putfield 182, 3) := by decide +kernel
theorem dX12_land_5 : decode cX12_land 5 = .ok (.aload_n 0, 1) := by decide +kernel
theorem dX12_land_6 : decode cX12_land 6 = .ok (.iconst (-1), 1) := by decide +kernel
theorem dX12_land_7 : decode cX12_land 7 = .ok (.putfield 16, 3) := by decide +kernel
theorem dX12_land_10 : decode cX12_land 10 = .ok (.aload_n 0, 1) := by decide +kernel
theorem dX12_land_11 : decode cX12_land 11 = .ok (.aload_n 0, 1) := by decide +kernel
theorem dX12_land_12 : decode cX12_land 12 = .ok (.getfield 292, 3) := by decide +kernel
theorem dX12_land_15 : decode cX12_land 15 = .ok (.putfield 179, 3) := by decide +kernel
theorem dX12_land_18 : decode cX12_land 18 = .ok (.iconst 0, 1) := by decide +kernel
theorem dX12_land_19 : decode cX12_land 19 = .ok (.istore_n 1, 1) := by decide +kernel
theorem dX12_land_20 : decode cX12_land 20 = .ok (.iload_n 1, 1) := by decide +kernel
theorem dX12_land_21 : decode cX12_land 21 = .ok (.aload_n 0, 1) := by decide +kernel
theorem dX12_land_22 : decode cX12_land 22 = .ok (.getfield 179, 3) := by decide +kernel
theorem dX12_land_25 : decode cX12_land 25 = .ok (.if_icmp .ge 21, 3) := by decide +kernel
theorem dX12_land_28 : decode cX12_land 28 = .ok (.aload_n 0, 1) := by decide +kernel
theorem dX12_land_29 : decode cX12_land 29 = .ok (.getfield 13, 3) := by decide +kernel
theorem dX12_land_32 : decode cX12_land 32 = .ok (.iload_n 1, 1) := by decide +kernel
theorem dX12_land_33 : decode cX12_land 33 = .ok (.aload_n 0, 1) := by decide +kernel
theorem dX12_land_34 : decode cX12_land 34 = .ok (.getfield 7, 3) := by decide +kernel
theorem dX12_land_37 : decode cX12_land 37 = .ok (.iload_n 1, 1) := by decide +kernel
theorem dX12_land_38 : decode cX12_land 38 = .ok (.baload, 1) := by decide +kernel
theorem dX12_land_39 : decode cX12_land 39 = .ok (.bastore, 1) := by decide +kernel
theorem dX12_land_40 : decode cX12_land 40 = .ok (.iinc 1 1, 3) := by decide +kernel
theorem dX12_land_43 : decode cX12_land 43 = .ok (.goto (-23), 3) := by decide +kernel
theorem dX12_land_46 : decode cX12_land 46 = .ok (.aload_n 0, 1) := by decide +kernel
theorem dX12_land_47 : decode cX12_land 47 = .ok (.iconst 0, 1) := by decide +kernel
theorem dX12_land_48 : decode cX12_land 48 = .ok (.putfield 292, 3) := by decide +kernel
theorem dX12_land_51 : decode cX12_land 51 = .ok (.aload_n 0, 1) := by decide +kernel
theorem dX12_land_52 : decode cX12_land 52 = .ok (.iconst 0, 1) := by decide +kernel
theorem dX12_land_53 : decode cX12_land 53 = .ok (.putfield 227, 3) := by decide +kernel
theorem dX12_land_56 : decode cX12_land 56 = .ok (.aload_n 0, 1) := by decide +kernel
theorem dX12_land_57 : decode cX12_land 57 = .ok (.iconst 1, 1) := by decide +kernel
theorem dX12_land_58 : decode cX12_land 58 = .ok (.aload_n 0, 1) := by decide +kernel
theorem dX12_land_59 : decode cX12_land 59 = .ok (.getfield 295, 3) := by decide +kernel
theorem dX12_land_62 : decode cX12_land 62 = .ok (.isub, 1) := by decide +kernel
theorem dX12_land_63 : decode cX12_land 63 = .ok (.putfield 286, 3) := by decide +kernel
theorem dX12_land_66 : decode cX12_land 66 = .ok (.aload_n 0, 1) := by decide +kernel
theorem dX12_land_67 : decode cX12_land 67 = .ok (.invokevirtual 173, 3) := by decide +kernel
theorem dX12_land_70 : decode cX12_land 70 = .ok (.aload_n 0, 1) := by decide +kernel
theorem dX12_land_71 : decode cX12_land 71 = .ok (.invokevirtual 269, 3) := by decide +kernel
theorem dX12_land_74 : decode cX12_land 74 = .ok (.aload_n 0, 1) := by decide +kernel
theorem dX12_land_75 : decode cX12_land 75 = .ok (.invokevirtual 265, 3) := by decide +kernel
theorem dX12_land_78 : decode cX12_land 78 = .ok (.ifCond .eq 17, 3) := by decide +kernel
theorem dX12_land_81 : decode cX12_land 81 = .ok (.aload_n 0, 1) := by decide +kernel
theorem dX12_land_82 : decode cX12_land 82 = .ok (.getfield 237, 3) := by decide +kernel
theorem dX12_land_85 : decode cX12_land 85 = .ok (.ifCond .eq 10, 3) := by decide +kernel
theorem dX12_land_88 : decode cX12_land 88 = .ok (.aload_n 0, 1) := by decide +kernel
theorem dX12_land_89 : decode cX12_land 89 = .ok (.invokevirtual 298, 3) := by decide +kernel
theorem dX12_land_92 : decode cX12_land 92 = .ok (.goto (-18), 3) := by decide +kernel
theorem dX12_land_95 : decode cX12_land 95 = .ok (.aload_n 0, 1) := by decide +kernel
theorem dX12_land_96 : decode cX12_land 96 = .ok (.invokevirtual 265, 3) := by decide +kernel
theorem dX12_land_99 : decode cX12_land 99 = .ok (.ifCond .ne 5, 3) := by decide +kernel
theorem dX12_land_102 : decode cX12_land 102 = .ok (.iconst (-1), 1) := by decide +kernel
theorem dX12_land_103 : decode cX12_land 103 = .ok (.ireturn, 1) := by decide +kernel
theorem dX12_land_104 : decode cX12_land 104 = .ok (.aload_n 0, 1) := by decide +kernel
theorem dX12_land_105 : decode cX12_land 105 = .ok (.aload_n 0, 1) := by decide +kernel
theorem dX12_land_106 : decode cX12_land 106 = .ok (.getfield 286, 3) := by decide +kernel
theorem dX12_land_109 : decode cX12_land 109 = .ok (.putfield 295, 3) := by decide +kernel
theorem dX12_land_112 : decode cX12_land 112 = .ok (.aload_n 0, 1) := by decide +kernel
theorem dX12_land_113 : decode cX12_land 113 = .ok (.invokevirtual 176, 3) := by decide +kernel
theorem dX12_land_116 : decode cX12_land 116 = .ok (.aload_n 0, 1) := by decide +kernel
theorem dX12_land_117 : decode cX12_land 117 = .ok (.getfield 20, 3) := by decide +kernel
theorem dX12_land_120 : decode cX12_land 120 = .ok (.aload_n 0, 1) := by decide +kernel
theorem dX12_land_121 : decode cX12_land 121 = .ok (.getfield 295, 3) := by decide +kernel
theorem dX12_land_124 : decode cX12_land 124 = .ok (.iaload, 1) := by decide +kernel
theorem dX12_land_125 : decode cX12_land 125 = .ok (.ireturn, 1) := by decide +kernel
theorem dX12_isFull_0 : decode cX12_isFull 0 = .ok (.aload_n 0, 1) := by decide +kernel
theorem dX12_isFull_1 : decode cX12_isFull 1 = .ok (.ldc2_w 185, 3) := by decide +kernel
theorem dX12_isFull_4 : decode cX12_isFull 4 = .ok (.invokevirtual 275, 3) := by decide +kernel
theorem dX12_isFull_7 : decode cX12_isFull 7 = .ok (.ifCond .eq 23, 3) := by decide +kernel
theorem dX12_isFull_10 : decode cX12_isFull 10 = .ok (.aload_n 0, 1) := by decide +kernel
theorem dX12_isFull_11 : decode cX12_isFull 11 = .ok (.getfield 20, 3) := by decide +kernel
theorem dX12_isFull_14 : decode cX12_isFull 14 = .ok (.aload_n 0, 1) := by decide +kernel
theorem dX12_isFull_15 : decode cX12_isFull 15 = .ok (.getfield 286, 3) := by decide +kernel
theorem dX12_isFull_18 : decode cX12_isFull 18 = .ok (.iaload, 1) := by decide +kernel
theorem dX12_isFull_19 : decode cX12_isFull 19 = .ok (.bipush 8, 2) := by decide +kernel
theorem dX12_isFull_21 : decode cX12_isFull 21 = .ok (.if_icmp .ne 7, 3) := by decide +kernel
theorem dX12_isFull_24 : decode cX12_isFull 24 = .ok (.iconst 1, 1) := by decide +kernel
theorem dX12_isFull_25 : decode cX12_isFull 25 = .ok (.goto 4, 3) := by decide +kernel
theorem dX12_isFull_28 : decode cX12_isFull 28 = .ok (.iconst 0, 1) := by decide +kernel
theorem dX12_isFull_29 : decode cX12_isFull 29 = .ok (.ireturn, 1) := by decide +kernel
theorem dX12_isFull_30 : decode cX12_isFull 30 = .ok (.aload_n 0, 1) := by decide +kernel
theorem dX12_isFull_31 : decode cX12_isFull 31 = .ok (.ldc2_w 191, 3) := by decide +kernel
theorem dX12_isFull_34 : decode cX12_isFull 34 = .ok (.invokevirtual 275, 3) := by decide +kernel
theorem dX12_isFull_37 : decode cX12_isFull 37 = .ok (.ifCond .eq 23, 3) := by decide +kernel
theorem dX12_isFull_40 : decode cX12_isFull 40 = .ok (.aload_n 0, 1) := by decide +kernel
theorem dX12_isFull_41 : decode cX12_isFull 41 = .ok (.getfield 24, 3) := by decide +kernel
theorem dX12_isFull_44 : decode cX12_isFull 44 = .ok (.aload_n 0, 1) := by decide +kernel
theorem dX12_isFull_45 : decode cX12_isFull 45 = .ok (.getfield 286, 3) := by decide +kernel
theorem dX12_isFull_48 : decode cX12_isFull 48 = .ok (.iaload, 1) := by decide +kernel
theorem dX12_isFull_49 : decode cX12_isFull 49 = .ok (.bipush 14, 2) := by decide +kernel
theorem dX12_isFull_51 : decode cX12_isFull 51 = .ok (.if_icmp .ne 7, 3) := by decide +kernel
theorem dX12_isFull_54 : decode cX12_isFull 54 = .ok (.iconst 1, 1) := by decide +kernel
theorem dX12_isFull_55 : decode cX12_isFull 55 = .ok (.goto 4, 3) := by decide +kernel
theorem dX12_isFull_58 : decode cX12_isFull 58 = .ok (.iconst 0, 1) := by decide +kernel
theorem dX12_isFull_59 : decode cX12_isFull 59 = .ok (.ireturn, 1) := by decide +kernel
theorem dX12_isFull_60 : decode cX12_isFull 60 = .ok (.aload_n 0, 1) := by decide +kernel
theorem dX12_isFull_61 : decode cX12_isFull 61 = .ok (.ldc2_w 197, 3) := by decide +kernel
theorem dX12_isFull_64 : decode cX12_isFull 64 = .ok (.invokevirtual 275, 3) := by decide +kernel
theorem dX12_isFull_67 : decode cX12_isFull 67 = .ok (.ifCond .eq 23, 3) := by decide +kernel
theorem dX12_isFull_70 : decode cX12_isFull 70 = .ok (.aload_n 0, 1) := by decide +kernel
theorem dX12_isFull_71 : decode cX12_isFull 71 = .ok (.getfield 27, 3) := by decide +kernel
theorem dX12_isFull_74 : decode cX12_isFull 74 = .ok (.aload_n 0, 1) := by decide +kernel
theorem dX12_isFull_75 : decode cX12_isFull 75 = .ok (.getfield 286, 3) := by decide +kernel
theorem dX12_isFull_78 : decode cX12_isFull 78 = .ok (.iaload, 1) := by decide +kernel
theorem dX12_isFull_79 : decode cX12_isFull 79 = .ok (.bipush 6, 2) := by decide +kernel
theorem dX12_isFull_81 : decode cX12_isFull 81 = .ok (.if_icmp .ne 7, 3) := by decide +kernel
theorem dX12_isFull_84 : decode cX12_isFull 84 = .ok (.iconst 1, 1) := by decide +kernel
theorem dX12_isFull_85 : decode cX12_isFull 85 = .ok (.goto 4, 3) := by decide +kernel
theorem dX12_isFull_88 : decode cX12_isFull 88 = .ok (.iconst 0, 1) := by decide +kernel
theorem dX12_isFull_89 : decode cX12_isFull 89 = .ok (.ireturn, 1) := by decide +kernel
theorem dX12_isFull_90 : decode cX12_isFull 90 = .ok (.aload_n 0, 1) := by decide +kernel
theorem dX12_isFull_91 : decode cX12_isFull 91 = .ok (.ldc2_w 203, 3) := by decide +kernel
theorem dX12_isFull_94 : decode cX12_isFull 94 = .ok (.invokevirtual 275, 3) := by decide +kernel
theorem dX12_isFull_97 : decode cX12_isFull 97 = .ok (.ifCond .eq 23, 3) := by decide +kernel
theorem dX12_isFull_100 : decode cX12_isFull 100 = .ok (.aload_n 0, 1) := by decide +kernel
theorem dX12_isFull_101 : decode cX12_isFull 101 = .ok (.getfield 30, 3) := by decide +kernel
theorem dX12_isFull_104 : decode cX12_isFull 104 = .ok (.aload_n 0, 1) := by decide +kernel
theorem dX12_isFull_105 : decode cX12_isFull 105 = .ok (.getfield 286, 3) := by decide +kernel
theorem dX12_isFull_108 : decode cX12_isFull 108 = .ok (.iaload, 1) := by decide +kernel
theorem dX12_isFull_109 : decode cX12_isFull 109 = .ok (.bipush 6, 2) := by decide +kernel
theorem dX12_isFull_111 : decode cX12_isFull 111 = .ok (.if_icmp .ne 7, 3) := by decide +kernel
theorem dX12_isFull_114 : decode cX12_isFull 114 = .ok (.iconst 1, 1) := by decide +kernel
theorem dX12_isFull_115 : decode cX12_isFull 115 = .ok (.goto 4, 3) := by decide +kernel
theorem dX12_isFull_118 : decode cX12_isFull 118 = .ok (.iconst 0, 1) := by decide +kernel
theorem dX12_isFull_119 : decode cX12_isFull 119 = .ok (.ireturn, 1) := by decide +kernel
theorem dX12_isFull_120 : decode cX12_isFull 120 = .ok (.aload_n 0, 1) := by decide +kernel
theorem dX12_isFull_121 : decode cX12_isFull 121 = .ok (.ldc2_w 209, 3) := by decide +kernel
theorem dX12_isFull_124 : decode cX12_isFull 124 = .ok (.invokevirtual 275, 3) := by decide +kernel
theorem dX12_isFull_127 : decode cX12_isFull 127 = .ok (.ifCond .eq 15, 3) := by decide +kernel
theorem dX12_isFull_130 : decode cX12_isFull 130 = .ok (.aload_n 0, 1) := by decide +kernel
theorem dX12_isFull_131 : decode cX12_isFull 131 = .ok (.getfield 82, 3) := by decide +kernel
theorem dX12_isFull_134 : decode cX12_isFull 134 = .ok (.iconst 2, 1) := by decide +kernel
theorem dX12_isFull_135 : decode cX12_isFull 135 = .ok (.aload_n 0, 1) := by decide +kernel
theorem dX12_isFull_136 : decode cX12_isFull 136 = .ok (.getfield 286, 3) := by decide +kernel
theorem dX12_isFull_139 : decode cX12_isFull 139 = .ok (.imul, 1) := by decide +kernel
theorem dX12_isFull_140 : decode cX12_isFull 140 = .ok (.baload, 1) := by decide +kernel
theorem dX12_isFull_141 : decode cX12_isFull 141 = .ok (.ireturn, 1) := by decide +kernel
theorem dX12_isFull_142 : decode cX12_isFull 142 = .ok (.aload_n 0, 1) := by decide +kernel
theorem dX12_isFull_143 : decode cX12_isFull 143 = .ok (.ldc2_w 211, 3) := by decide +kernel
theorem dX12_isFull_146 : decode cX12_isFull 146 = .ok (.invokevirtual 275, 3) := by decide +kernel
theorem dX12_isFull_149 : decode cX12_isFull 149 = .ok (.ifCond .eq 17, 3) := by decide +kernel
theorem dX12_isFull_152 : decode cX12_isFull 152 = .ok (.aload_n 0, 1) := by decide +kernel
theorem dX12_isFull_153 : decode cX12_isFull 153 = .ok (.getfield 82, 3) := by decide +kernel
theorem dX12_isFull_156 : decode cX12_isFull 156 = .ok (.iconst 2, 1) := by decide +kernel
theorem dX12_isFull_157 : decode cX12_isFull 157 = .ok (.aload_n 0, 1) := by decide +kernel
theorem dX12_isFull_158 : decode cX12_isFull 158 = .ok (.getfield 286, 3) := by decide +kernel
theorem dX12_isFull_161 : decode cX12_isFull 161 = .ok (.imul, 1) := by decide +kernel
theorem dX12_isFull_162 : decode cX12_isFull 162 = .ok (.iconst 1, 1) := by decide +kernel
theorem dX12_isFull_163 : decode cX12_isFull 163 = .ok (.iadd, 1) := by decide +kernel
theorem dX12_isFull_164 : decode cX12_isFull 164 = .ok (.baload, 1) := by decide +kernel
theorem dX12_isFull_165 : decode cX12_isFull 165 = .ok (.ireturn, 1) := by decide +kernel
theorem dX12_isFull_166 : decode cX12_isFull 166 = .ok (.aload_n 0, 1) := by decide +kernel
theorem dX12_isFull_167 : decode cX12_isFull 167 = .ok (.ldc2_w 213, 3) := by decide +kernel
theorem dX12_isFull_170 : decode cX12_isFull 170 = .ok (.invokevirtual 275, 3) := by decide +kernel
theorem dX12_isFull_173 : decode cX12_isFull 173 = .ok (.ifCond .eq 15, 3) := by decide +kernel
theorem dX12_isFull_176 : decode cX12_isFull 176 = .ok (.aload_n 0, 1) := by decide +kernel
theorem dX12_isFull_177 : decode cX12_isFull 177 = .ok (.getfield 78, 3) := by decide +kernel
theorem dX12_isFull_180 : decode cX12_isFull 180 = .ok (.aload_n 0, 1) := by decide +kernel
theorem dX12_isFull_181 : decode cX12_isFull 181 = .ok (.getfield 286, 3) := by decide +kernel
theorem dX12_isFull_184 : decode cX12_isFull 184 = .ok (.baload, 1) := by decide +kernel
theorem dX12_isFull_185 : decode cX12_isFull 185 = .ok (.ifCond .eq 7, 3) := by decide +kernel
theorem dX12_isFull_188 : decode cX12_isFull 188 = .ok (.iconst 1, 1) := by decide +kernel
theorem dX12_isFull_189 : decode cX12_isFull 189 = .ok (.goto 4, 3) := by decide +kernel
theorem dX12_isFull_192 : decode cX12_isFull 192 = .ok (.iconst 0, 1) := by decide +kernel
theorem dX12_isFull_193 : decode cX12_isFull 193 = .ok (.ireturn, 1) := by decide +kernel
theorem dX12_readLine_0 : decode cX12_readLine 0 = .ok (.aload_n 0, 1) := by decide +kernel
theorem dX12_readLine_1 : decode cX12_readLine 1 = .ok (.getfield 244, 3) := by decide +kernel
theorem dX12_readLine_4 : decode cX12_readLine 4 = .ok (.lstore_n 1, 1) := by decide +kernel
theorem dX12_readLine_5 : decode cX12_readLine 5 = .ok (.aload_n 0, 1) := by decide +kernel
theorem dX12_readLine_6 : decode cX12_readLine 6 = .ok (.getfield 237, 3) := by decide +kernel
theorem dX12_readLine_9 : decode cX12_readLine 9 = .ok (.iconst 3, 1) := by decide +kernel
theorem dX12_readLine_10 : decode cX12_readLine 10 = .ok (.if_icmp .ne 10, 3) := by decide +kernel
theorem dX12_readLine_13 : decode cX12_readLine 13 = .ok (.aload_n 0, 1) := by decide +kernel
theorem dX12_readLine_14 : decode cX12_readLine 14 = .ok (.invokevirtual 301, 3) := by decide +kernel
theorem dX12_readLine_17 : decode cX12_readLine 17 = .ok (.ifCond .eq 7, 3) := by decide +kernel
theorem dX12_readLine_20 : decode cX12_readLine 20 = .ok (.aload_n 0, 1) := by decide +kernel
theorem dX12_readLine_21 : decode cX12_readLine 21 = .ok (.invokevirtual 272, 3) := by decide +kernel
theorem dX12_readLine_24 : decode cX12_readLine 24 = .ok (.aload_n 0, 1) := by decide +kernel
theorem dX12_readLine_25 : decode cX12_readLine 25 = .ok (.invokevirtual 265, 3) := by decide +kernel
theorem dX12_readLine_28 : decode cX12_readLine 28 = .ok (.ifCond .ne 4, 3) := by decide +kernel
theorem dX12_readLine_31 : decode cX12_readLine 31 = .ok (.return_, 1) := by decide +kernel
theorem dX12_readLine_32 : decode cX12_readLine 32 = .ok (.aload_n 0, 1) := by decide +kernel
theorem dX12_readLine_33 : decode cX12_readLine 33 = .ok (.invokevirtual 269, 3) := by decide +kernel
theorem dX12_readLine_36 : decode cX12_readLine 36 = .ok (.lload_n 1, 1) := by decide +kernel
theorem dX12_readLine_37 : decode cX12_readLine 37 = .ok (.ldc2_w 185, 3) := by decide +kernel
theorem dX12_readLine_40 : decode cX12_readLine 40 = .ok (.lcmp, 1) := by decide +kernel
theorem dX12_readLine_41 : decode cX12_readLine 41 = .ok (.ifCond .ne 7, 3) := by decide +kernel
theorem dX12_readLine_44 : decode cX12_readLine 44 = .ok (.aload_n 0, 1) := by decide +kernel
theorem dX12_readLine_45 : decode cX12_readLine 45 = .ok (.invokevirtual 304, 3) := by decide +kernel
theorem dX12_readLine_48 : decode cX12_readLine 48 = .ok (.lload_n 1, 1) := by decide +kernel
theorem dX12_readLine_49 : decode cX12_readLine 49 = .ok (.ldc2_w 191, 3) := by decide +kernel
theorem dX12_readLine_52 : decode cX12_readLine 52 = .ok (.lcmp, 1) := by decide +kernel
theorem dX12_readLine_53 : decode cX12_readLine 53 = .ok (.ifCond .ne 7, 3) := by decide +kernel
theorem dX12_readLine_56 : decode cX12_readLine 56 = .ok (.aload_n 0, 1) := by decide +kernel
theorem dX12_readLine_57 : decode cX12_readLine 57 = .ok (.invokevirtual 307, 3) := by decide +kernel
theorem dX12_readLine_60 : decode cX12_readLine 60 = .ok (.lload_n 1, 1) := by decide +kernel
theorem dX12_readLine_61 : decode cX12_readLine 61 = .ok (.ldc2_w 197, 3) := by decide +kernel
theorem dX12_readLine_64 : decode cX12_readLine 64 = .ok (.lcmp, 1) := by decide +kernel
theorem dX12_readLine_65 : decode cX12_readLine 65 = .ok (.ifCond .ne 7, 3) := by decide +kernel
theorem dX12_readLine_68 : decode cX12_readLine 68 = .ok (.aload_n 0, 1) := by decide +kernel
theorem dX12_readLine_69 : decode cX12_readLine 69 = .ok (.invokevirtual 310, 3) := by decide +kernel
theorem dX12_readLine_72 : decode cX12_readLine 72 = .ok (.lload_n 1, 1) := by decide +kernel
theorem dX12_readLine_73 : decode cX12_readLine 73 = .ok (.ldc2_w 203, 3) := by decide +kernel
theorem dX12_readLine_76 : decode cX12_readLine 76 = .ok (.lcmp, 1) := by decide +kernel
theorem dX12_readLine_77 : decode cX12_readLine 77 = .ok (.ifCond .ne 7, 3) := by decide +kernel
theorem dX12_readLine_80 : decode cX12_readLine 80 = .ok (.aload_n 0, 1) := by decide +kernel
theorem dX12_readLine_81 : decode cX12_readLine 81 = .ok (.invokevirtual 313, 3) := by decide +kernel
theorem dX12_readLine_84 : decode cX12_readLine 84 = .ok (.lload_n 1, 1) := by decide +kernel
theorem dX12_readLine_85 : decode cX12_readLine 85 = .ok (.ldc2_w 209, 3) := by decide +kernel
theorem dX12_readLine_88 : decode cX12_readLine 88 = .ok (.lcmp, 1) := by decide +kernel
theorem dX12_readLine_89 : decode cX12_readLine 89 = .ok (.ifCond .ne 8, 3) := by decide +kernel
theorem dX12_readLine_92 : decode cX12_readLine 92 = .ok (.aload_n 0, 1) := by decide +kernel
theorem dX12_readLine_93 : decode cX12_readLine 93 = .ok (.iconst 0, 1) := by decide +kernel
theorem dX12_readLine_94 : decode cX12_readLine 94 = .ok (.invokevirtual 316, 3) := by decide +kernel
theorem dX12_readLine_97 : decode cX12_readLine 97 = .ok (.lload_n 1, 1) := by decide +kernel
theorem dX12_readLine_98 : decode cX12_readLine 98 = .ok (.ldc2_w 211, 3) := by decide +kernel
theorem dX12_readLine_101 : decode cX12_readLine 101 = .ok (.lcmp, 1) := by decide +kernel
theorem dX12_readLine_102 : decode cX12_readLine 102 = .ok (.ifCond .ne 8, 3) := by decide +kernel
theorem dX12_readLine_105 : decode cX12_readLine 105 = .ok (.aload_n 0, 1) := by decide +kernel
theorem dX12_readLine_106 : decode cX12_readLine 106 = .ok (.iconst 1, 1) := by decide +kernel
theorem dX12_readLine_107 : decode cX12_readLine 107 = .ok (.invokevirtual 316, 3) := by decide +kernel
theorem dX12_readLine_110 : decode cX12_readLine 110 = .ok (.lload_n 1, 1) := by decide +kernel
theorem dX12_readLine_111 : decode cX12_readLine 111 = .ok (.ldc2_w 213, 3) := by decide +kernel
theorem dX12_readLine_114 : decode cX12_readLine 114 = .ok (.lcmp, 1) := by decide +kernel
theorem dX12_readLine_115 : decode cX12_readLine 115 = .ok (.ifCond .ne 30, 3) := by decide +kernel
theorem dX12_readLine_118 : decode cX12_readLine 118 = .ok (.aload_n 0, 1) := by decide +kernel
theorem dX12_readLine_119 : decode cX12_readLine 119 = .ok (.getfield 78, 3) := by decide +kernel
theorem dX12_readLine_122 : decode cX12_readLine 122 = .ok (.aload_n 0, 1) := by decide +kernel
theorem dX12_readLine_123 : decode cX12_readLine 123 = .ok (.getfield 286, 3) := by decide +kernel
theorem dX12_readLine_126 : decode cX12_readLine 126 = .ok (.iconst 1, 1) := by decide +kernel
theorem dX12_readLine_127 : decode cX12_readLine 127 = .ok (.bastore, 1) := by decide +kernel
theorem dX12_readLine_128 : decode cX12_readLine 128 = .ok (.aload_n 0, 1) := by decide +kernel
theorem dX12_readLine_129 : decode cX12_readLine 129 = .ok (.getfield 36, 3) := by decide +kernel
theorem dX12_readLine_132 : decode cX12_readLine 132 = .ok (.aload_n 0, 1) := by decide +kernel
theorem dX12_readLine_133 : decode cX12_readLine 133 = .ok (.getfield 286, 3) := by decide +kernel
theorem dX12_readLine_136 : decode cX12_readLine 136 = .ok (.aload_n 0, 1) := by decide +kernel
theorem dX12_readLine_137 : decode cX12_readLine 137 = .ok (.iconst 0, 1) := by decide +kernel
theorem dX12_readLine_138 : decode cX12_readLine 138 = .ok (.sipush 999, 3) := by decide +kernel
theorem dX12_readLine_141 : decode cX12_readLine 141 = .ok (.invokevirtual 282, 3) := by decide +kernel
theorem dX12_readLine_144 : decode cX12_readLine 144 = .ok (.iastore, 1) := by decide +kernel
theorem dX12_readLine_145 : decode cX12_readLine 145 = .ok (.aload_n 0, 1) := by decide +kernel
theorem dX12_readLine_146 : decode cX12_readLine 146 = .ok (.aload_n 0, 1) := by decide +kernel
theorem dX12_readLine_147 : decode cX12_readLine 147 = .ok (.bipush 59, 2) := by decide +kernel
theorem dX12_readLine_149 : decode cX12_readLine 149 = .ok (.invokevirtual 320, 3) := by decide +kernel
theorem dX12_readLine_152 : decode cX12_readLine 152 = .ok (.invokevirtual 278, 3) := by decide +kernel
theorem dX12_readLine_155 : decode cX12_readLine 155 = .ok (.return_, 1) := by decide +kernel
theorem dX12_here_0 : decode cX12_here 0 = .ok (.iconst 0, 1) := by decide +kernel
theorem dX12_here_1 : decode cX12_here 1 = .ok (.istore 4, 2) := by decide +kernel
theorem dX12_here_3 : decode cX12_here 3 = .ok (.iload 4, 2) := by decide +kernel
theorem dX12_here_5 : decode cX12_here 5 = .ok (.iload_n 3, 1) := by decide +kernel
theorem dX12_here_6 : decode cX12_here 6 = .ok (.if_icmp .ge 34, 3) := by decide +kernel
theorem dX12_here_9 : decode cX12_here 9 = .ok (.aload_n 0, 1) := by decide +kernel
theorem dX12_here_10 : decode cX12_here 10 = .ok (.getfield 237, 3) := by decide +kernel
theorem dX12_here_13 : decode cX12_here 13 = .ok (.iconst 2, 1) := by decide +kernel
theorem dX12_here_14 : decode cX12_here 14 = .ok (.if_icmp .ne 20, 3) := by decide +kernel
theorem dX12_here_17 : decode cX12_here 17 = .ok (.aload_n 1, 1) := by decide +kernel
theorem dX12_here_18 : decode cX12_here 18 = .ok (.iload_n 2, 1) := by decide +kernel
theorem dX12_here_19 : decode cX12_here 19 = .ok (.iload 4, 2) := by decide +kernel
theorem dX12_here_21 : decode cX12_here 21 = .ok (.iadd, 1) := by decide +kernel
theorem dX12_here_22 : decode cX12_here 22 = .ok (.laload, 1) := by decide +kernel
theorem dX12_here_23 : decode cX12_here 23 = .ok (.aload_n 0, 1) := by decide +kernel
theorem dX12_here_24 : decode cX12_here 24 = .ok (.getfield 244, 3) := by decide +kernel
theorem dX12_here_27 : decode cX12_here 27 = .ok (.lcmp, 1) := by decide +kernel
theorem dX12_here_28 : decode cX12_here 28 = .ok (.ifCond .ne 6, 3) := by decide +kernel
theorem dX12_here_31 : decode cX12_here 31 = .ok (.iload 4, 2) := by decide +kernel
theorem dX12_here_33 : decode cX12_here 33 = .ok (.ireturn, 1) := by decide +kernel
theorem dX12_here_34 : decode cX12_here 34 = .ok (.iinc 4 1, 3) := by decide +kernel
theorem dX12_here_37 : decode cX12_here 37 = .ok (.goto (-34), 3) := by decide +kernel
theorem dX12_here_40 : decode cX12_here 40 = .ok (.iconst (-1), 1) := by decide +kernel
theorem dX12_here_41 : decode cX12_here 41 = .ok (.ireturn, 1) := by decide +kernel
theorem dX12_fresh_0 : decode cX12_fresh 0 = .ok (.aload_n 0, 1) := by decide +kernel
theorem dX12_fresh_1 : decode cX12_fresh 1 = .ok (.invokevirtual 265, 3) := by decide +kernel
theorem dX12_fresh_4 : decode cX12_fresh 4 = .ok (.ifCond .ne 5, 3) := by decide +kernel
theorem dX12_fresh_7 : decode cX12_fresh 7 = .ok (.lconst 0, 1) := by decide +kernel
theorem dX12_fresh_8 : decode cX12_fresh 8 = .ok (.lreturn, 1) := by decide +kernel
theorem dX12_fresh_9 : decode cX12_fresh 9 = .ok (.aload_n 0, 1) := by decide +kernel
theorem dX12_fresh_10 : decode cX12_fresh 10 = .ok (.getfield 237, 3) := by decide +kernel
theorem dX12_fresh_13 : decode cX12_fresh 13 = .ok (.iconst 2, 1) := by decide +kernel
theorem dX12_fresh_14 : decode cX12_fresh 14 = .ok (.if_icmp .eq 10, 3) := by decide +kernel
theorem dX12_fresh_17 : decode cX12_fresh 17 = .ok (.aload_n 0, 1) := by decide +kernel
theorem dX12_fresh_18 : decode cX12_fresh 18 = .ok (.invokevirtual 272, 3) := by decide +kernel
theorem dX12_fresh_21 : decode cX12_fresh 21 = .ok (.goto 16, 3) := by decide +kernel
theorem dX12_fresh_24 : decode cX12_fresh 24 = .ok (.iload_n 1, 1) := by decide +kernel
theorem dX12_fresh_25 : decode cX12_fresh 25 = .ok (.ifCond .lt 12, 3) := by decide +kernel
theorem dX12_fresh_28 : decode cX12_fresh 28 = .ok (.aload_n 0, 1) := by decide +kernel
theorem dX12_fresh_29 : decode cX12_fresh 29 = .ok (.iconst 3, 1) := by decide +kernel
theorem dX12_fresh_30 : decode cX12_fresh 30 = .ok (.aload_n 0, 1) := by decide +kernel
theorem dX12_fresh_31 : decode cX12_fresh 31 = .ok (.getfield 230, 3) := by decide +kernel
theorem dX12_fresh_34 : decode cX12_fresh 34 = .ok (.invokevirtual 261, 3) := by decide +kernel
theorem dX12_fresh_37 : decode cX12_fresh 37 = .ok (.aload_n 0, 1) := by decide +kernel
theorem dX12_fresh_38 : decode cX12_fresh 38 = .ok (.getfield 244, 3) := by decide +kernel
theorem dX12_fresh_41 : decode cX12_fresh 41 = .ok (.lstore_n 2, 1) := by decide +kernel
theorem dX12_fresh_42 : decode cX12_fresh 42 = .ok (.aload_n 0, 1) := by decide +kernel
theorem dX12_fresh_43 : decode cX12_fresh 43 = .ok (.invokevirtual 265, 3) := by decide +kernel
theorem dX12_fresh_46 : decode cX12_fresh 46 = .ok (.ifCond .eq 7, 3) := by decide +kernel
theorem dX12_fresh_49 : decode cX12_fresh 49 = .ok (.aload_n 0, 1) := by decide +kernel
theorem dX12_fresh_50 : decode cX12_fresh 50 = .ok (.invokevirtual 269, 3) := by decide +kernel
theorem dX12_fresh_53 : decode cX12_fresh 53 = .ok (.lload_n 2, 1) := by decide +kernel
theorem dX12_fresh_54 : decode cX12_fresh 54 = .ok (.lreturn, 1) := by decide +kernel
theorem dX12_known_0 : decode cX12_known 0 = .ok (.aload_n 0, 1) := by decide +kernel
theorem dX12_known_1 : decode cX12_known 1 = .ok (.invokevirtual 265, 3) := by decide +kernel
theorem dX12_known_4 : decode cX12_known 4 = .ok (.ifCond .ne 5, 3) := by decide +kernel
theorem dX12_known_7 : decode cX12_known 7 = .ok (.iconst 0, 1) := by decide +kernel
theorem dX12_known_8 : decode cX12_known 8 = .ok (.ireturn, 1) := by decide +kernel
theorem dX12_known_9 : decode cX12_known 9 = .ok (.aload_n 0, 1) := by decide +kernel
theorem dX12_known_10 : decode cX12_known 10 = .ok (.aload_n 0, 1) := by decide +kernel
theorem dX12_known_11 : decode cX12_known 11 = .ok (.getfield 85, 3) := by decide +kernel
theorem dX12_known_14 : decode cX12_known 14 = .ok (.bipush 8, 2) := by decide +kernel
theorem dX12_known_16 : decode cX12_known 16 = .ok (.aload_n 0, 1) := by decide +kernel
theorem dX12_known_17 : decode cX12_known 17 = .ok (.getfield 286, 3) := by decide +kernel
theorem dX12_known_20 : decode cX12_known 20 = .ok (.imul, 1) := by decide +kernel
theorem dX12_known_21 : decode cX12_known 21 = .ok (.aload_n 0, 1) := by decide +kernel
theorem dX12_known_22 : decode cX12_known 22 = .ok (.getfield 20, 3) := by decide +kernel
theorem dX12_known_25 : decode cX12_known 25 = .ok (.aload_n 0, 1) := by decide +kernel
theorem dX12_known_26 : decode cX12_known 26 = .ok (.getfield 286, 3) := by decide +kernel
theorem dX12_known_29 : decode cX12_known 29 = .ok (.iaload, 1) := by decide +kernel
theorem dX12_known_30 : decode cX12_known 30 = .ok (.invokevirtual 323, 3) := by decide +kernel
theorem dX12_known_33 : decode cX12_known 33 = .ok (.istore_n 1, 1) := by decide +kernel
theorem dX12_known_34 : decode cX12_known 34 = .ok (.aload_n 0, 1) := by decide +kernel
theorem dX12_known_35 : decode cX12_known 35 = .ok (.getfield 237, 3) := by decide +kernel
theorem dX12_known_38 : decode cX12_known 38 = .ok (.iconst 2, 1) := by decide +kernel
theorem dX12_known_39 : decode cX12_known 39 = .ok (.if_icmp .eq 10, 3) := by decide +kernel
theorem dX12_known_42 : decode cX12_known 42 = .ok (.aload_n 0, 1) := by decide +kernel
theorem dX12_known_43 : decode cX12_known 43 = .ok (.invokevirtual 272, 3) := by decide +kernel
theorem dX12_known_46 : decode cX12_known 46 = .ok (.goto 16, 3) := by decide +kernel
theorem dX12_known_49 : decode cX12_known 49 = .ok (.iload_n 1, 1) := by decide +kernel
theorem dX12_known_50 : decode cX12_known 50 = .ok (.ifCond .ge 12, 3) := by decide +kernel
theorem dX12_known_53 : decode cX12_known 53 = .ok (.aload_n 0, 1) := by decide +kernel
theorem dX12_known_54 : decode cX12_known 54 = .ok (.iconst 5, 1) := by decide +kernel
theorem dX12_known_55 : decode cX12_known 55 = .ok (.aload_n 0, 1) := by decide +kernel
theorem dX12_known_56 : decode cX12_known 56 = .ok (.getfield 230, 3) := by decide +kernel
theorem dX12_known_59 : decode cX12_known 59 = .ok (.invokevirtual 261, 3) := by decide +kernel
theorem dX12_known_62 : decode cX12_known 62 = .ok (.iload_n 1, 1) := by decide +kernel
theorem dX12_known_63 : decode cX12_known 63 = .ok (.ifCond .ge 7, 3) := by decide +kernel
theorem dX12_known_66 : decode cX12_known 66 = .ok (.iconst 0, 1) := by decide +kernel
theorem dX12_known_67 : decode cX12_known 67 = .ok (.goto 4, 3) := by decide +kernel
theorem dX12_known_70 : decode cX12_known 70 = .ok (.iload_n 1, 1) := by decide +kernel
theorem dX12_known_71 : decode cX12_known 71 = .ok (.ireturn, 1) := by decide +kernel
theorem dX12_readPlace_0 : decode cX12_readPlace 0 = .ok (.bipush 8, 2) := by decide +kernel
theorem dX12_readPlace_2 : decode cX12_readPlace 2 = .ok (.aload_n 0, 1) := by decide +kernel
theorem dX12_readPlace_3 : decode cX12_readPlace 3 = .ok (.getfield 286, 3) := by decide +kernel
theorem dX12_readPlace_6 : decode cX12_readPlace 6 = .ok (.imul, 1) := by decide +kernel
theorem dX12_readPlace_7 : decode cX12_readPlace 7 = .ok (.aload_n 0, 1) := by decide +kernel
theorem dX12_readPlace_8 : decode cX12_readPlace 8 = .ok (.getfield 20, 3) := by decide +kernel
theorem dX12_readPlace_11 : decode cX12_readPlace 11 = .ok (.aload_n 0, 1) := by decide +kernel
theorem dX12_readPlace_12 : decode cX12_readPlace 12 = .ok (.getfield 286, 3) := by decide +kernel
theorem dX12_readPlace_15 : decode cX12_readPlace 15 = .ok (.iaload, 1) := by decide +kernel
theorem dX12_readPlace_16 : decode cX12_readPlace 16 = .ok (.iadd, 1) := by decide +kernel
theorem dX12_readPlace_17 : decode cX12_readPlace 17 = .ok (.istore_n 1, 1) := by decide +kernel
theorem dX12_readPlace_18 : decode cX12_readPlace 18 = .ok (.aload_n 0, 1) := by decide +kernel
theorem dX12_readPlace_19 : decode cX12_readPlace 19 = .ok (.getfield 85, 3) := by decide +kernel
theorem dX12_readPlace_22 : decode cX12_readPlace 22 = .ok (.iload_n 1, 1) := by decide +kernel
theorem dX12_readPlace_23 : decode cX12_readPlace 23 = .ok (.aload_n 0, 1) := by decide +kernel
theorem dX12_readPlace_24 : decode cX12_readPlace 24 = .ok (.aload_n 0, 1) := by decide +kernel
theorem dX12_readPlace_25 : decode cX12_readPlace 25 = .ok (.aload_n 0, 1) := by decide +kernel
theorem dX12_readPlace_26 : decode cX12_readPlace 26 = .ok (.getfield 85, 3) := by decide +kernel
theorem dX12_readPlace_29 : decode cX12_readPlace 29 = .ok (.bipush 8, 2) := by decide +kernel
theorem dX12_readPlace_31 : decode cX12_readPlace 31 = .ok (.aload_n 0, 1) := by decide +kernel
theorem dX12_readPlace_32 : decode cX12_readPlace 32 = .ok (.getfield 286, 3) := by decide +kernel
theorem dX12_readPlace_35 : decode cX12_readPlace 35 = .ok (.imul, 1) := by decide +kernel
theorem dX12_readPlace_36 : decode cX12_readPlace 36 = .ok (.aload_n 0, 1) := by decide +kernel
theorem dX12_readPlace_37 : decode cX12_readPlace 37 = .ok (.getfield 20, 3) := by decide +kernel
theorem dX12_readPlace_40 : decode cX12_readPlace 40 = .ok (.aload_n 0, 1) := by decide +kernel
theorem dX12_readPlace_41 : decode cX12_readPlace 41 = .ok (.getfield 286, 3) := by decide +kernel
theorem dX12_readPlace_44 : decode cX12_readPlace 44 = .ok (.iaload, 1) := by decide +kernel
theorem dX12_readPlace_45 : decode cX12_readPlace 45 = .ok (.invokevirtual 323, 3) := by decide +kernel
theorem dX12_readPlace_48 : decode cX12_readPlace 48 = .ok (.invokevirtual 327, 3) := by decide +kernel
theorem dX12_readPlace_51 : decode cX12_readPlace 51 = .ok (.lastore, 1) := by decide +kernel
theorem dX12_readPlace_52 : decode cX12_readPlace 52 = .ok (.aload_n 0, 1) := by decide +kernel
theorem dX12_readPlace_53 : decode cX12_readPlace 53 = .ok (.getfield 39, 3) := by decide +kernel
theorem dX12_readPlace_56 : decode cX12_readPlace 56 = .ok (.iload_n 1, 1) := by decide +kernel
theorem dX12_readPlace_57 : decode cX12_readPlace 57 = .ok (.aload_n 0, 1) := by decide +kernel
theorem dX12_readPlace_58 : decode cX12_readPlace 58 = .ok (.invokevirtual 265, 3) := by decide +kernel
theorem dX12_readPlace_61 : decode cX12_readPlace 61 = .ok (.ifCond .eq 26, 3) := by decide +kernel
theorem dX12_readPlace_64 : decode cX12_readPlace 64 = .ok (.aload_n 0, 1) := by decide +kernel
theorem dX12_readPlace_65 : decode cX12_readPlace 65 = .ok (.ldc2_w 187, 3) := by decide +kernel
theorem dX12_readPlace_68 : decode cX12_readPlace 68 = .ok (.invokevirtual 275, 3) := by decide +kernel
theorem dX12_readPlace_71 : decode cX12_readPlace 71 = .ok (.ifCond .eq 16, 3) := by decide +kernel
theorem dX12_readPlace_74 : decode cX12_readPlace 74 = .ok (.aload_n 0, 1) := by decide +kernel
theorem dX12_readPlace_75 : decode cX12_readPlace 75 = .ok (.ldc2_w 187, 3) := by decide +kernel
theorem dX12_readPlace_78 : decode cX12_readPlace 78 = .ok (.iconst 0, 1) := by decide +kernel
theorem dX12_readPlace_79 : decode cX12_readPlace 79 = .ok (.bipush 9, 2) := by decide +kernel
theorem dX12_readPlace_81 : decode cX12_readPlace 81 = .ok (.invokevirtual 331, 3) := by decide +kernel
theorem dX12_readPlace_84 : decode cX12_readPlace 84 = .ok (.goto 4, 3) := by decide +kernel
theorem dX12_readPlace_87 : decode cX12_readPlace 87 = .ok (.iconst 0, 1) := by decide +kernel
theorem dX12_readPlace_88 : decode cX12_readPlace 88 = .ok (.iastore, 1) := by decide +kernel
theorem dX12_readPlace_89 : decode cX12_readPlace 89 = .ok (.aload_n 0, 1) := by decide +kernel
theorem dX12_readPlace_90 : decode cX12_readPlace 90 = .ok (.getfield 42, 3) := by decide +kernel
theorem dX12_readPlace_93 : decode cX12_readPlace 93 = .ok (.iload_n 1, 1) := by decide +kernel
theorem dX12_readPlace_94 : decode cX12_readPlace 94 = .ok (.aload_n 0, 1) := by decide +kernel
theorem dX12_readPlace_95 : decode cX12_readPlace 95 = .ok (.invokevirtual 265, 3) := by decide +kernel
theorem dX12_readPlace_98 : decode cX12_readPlace 98 = .ok (.ifCond .eq 26, 3) := by decide +kernel
theorem dX12_readPlace_101 : decode cX12_readPlace 101 = .ok (.aload_n 0, 1) := by decide +kernel
theorem dX12_readPlace_102 : decode cX12_readPlace 102 = .ok (.ldc2_w 189, 3) := by decide +kernel
theorem dX12_readPlace_105 : decode cX12_readPlace 105 = .ok (.invokevirtual 275, 3) := by decide +kernel
theorem dX12_readPlace_108 : decode cX12_readPlace 108 = .ok (.ifCond .eq 16, 3) := by decide +kernel
theorem dX12_readPlace_111 : decode cX12_readPlace 111 = .ok (.aload_n 0, 1) := by decide +kernel
theorem dX12_readPlace_112 : decode cX12_readPlace 112 = .ok (.ldc2_w 189, 3) := by decide +kernel
theorem dX12_readPlace_115 : decode cX12_readPlace 115 = .ok (.iconst 0, 1) := by decide +kernel
theorem dX12_readPlace_116 : decode cX12_readPlace 116 = .ok (.bipush 9, 2) := by decide +kernel
theorem dX12_readPlace_118 : decode cX12_readPlace 118 = .ok (.invokevirtual 331, 3) := by decide +kernel
theorem dX12_readPlace_121 : decode cX12_readPlace 121 = .ok (.goto 4, 3) := by decide +kernel
theorem dX12_readPlace_124 : decode cX12_readPlace 124 = .ok (.iconst 0, 1) := by decide +kernel
theorem dX12_readPlace_125 : decode cX12_readPlace 125 = .ok (.iastore, 1) := by decide +kernel
theorem dX12_readPlace_126 : decode cX12_readPlace 126 = .ok (.aload_n 0, 1) := by decide +kernel
theorem dX12_readPlace_127 : decode cX12_readPlace 127 = .ok (.getfield 20, 3) := by decide +kernel
theorem dX12_readPlace_130 : decode cX12_readPlace 130 = .ok (.aload_n 0, 1) := by decide +kernel
theorem dX12_readPlace_131 : decode cX12_readPlace 131 = .ok (.getfield 286, 3) := by decide +kernel
theorem dX12_readPlace_134 : decode cX12_readPlace 134 = .ok (.dup2, 1) := by decide +kernel
theorem dX12_readPlace_135 : decode cX12_readPlace 135 = .ok (.iaload, 1) := by decide +kernel
theorem dX12_readPlace_136 : decode cX12_readPlace 136 = .ok (.iconst 1, 1) := by decide +kernel
theorem dX12_readPlace_137 : decode cX12_readPlace 137 = .ok (.iadd, 1) := by decide +kernel
theorem dX12_readPlace_138 : decode cX12_readPlace 138 = .ok (.iastore, 1) := by decide +kernel
theorem dX12_readPlace_139 : decode cX12_readPlace 139 = .ok (.return_, 1) := by decide +kernel
theorem dX12_readWay_0 : decode cX12_readWay 0 = .ok (.bipush 14, 2) := by decide +kernel
theorem dX12_readWay_2 : decode cX12_readWay 2 = .ok (.aload_n 0, 1) := by decide +kernel
theorem dX12_readWay_3 : decode cX12_readWay 3 = .ok (.getfield 286, 3) := by decide +kernel
theorem dX12_readWay_6 : decode cX12_readWay 6 = .ok (.imul, 1) := by decide +kernel
theorem dX12_readWay_7 : decode cX12_readWay 7 = .ok (.aload_n 0, 1) := by decide +kernel
theorem dX12_readWay_8 : decode cX12_readWay 8 = .ok (.getfield 24, 3) := by decide +kernel
theorem dX12_readWay_11 : decode cX12_readWay 11 = .ok (.aload_n 0, 1) := by decide +kernel
theorem dX12_readWay_12 : decode cX12_readWay 12 = .ok (.getfield 286, 3) := by decide +kernel
theorem dX12_readWay_15 : decode cX12_readWay 15 = .ok (.iaload, 1) := by decide +kernel
theorem dX12_readWay_16 : decode cX12_readWay 16 = .ok (.iadd, 1) := by decide +kernel
theorem dX12_readWay_17 : decode cX12_readWay 17 = .ok (.istore_n 1, 1) := by decide +kernel
theorem dX12_readWay_18 : decode cX12_readWay 18 = .ok (.aload_n 0, 1) := by decide +kernel
theorem dX12_readWay_19 : decode cX12_readWay 19 = .ok (.getfield 45, 3) := by decide +kernel
theorem dX12_readWay_22 : decode cX12_readWay 22 = .ok (.iload_n 1, 1) := by decide +kernel
theorem dX12_readWay_23 : decode cX12_readWay 23 = .ok (.aload_n 0, 1) := by decide +kernel
theorem dX12_readWay_24 : decode cX12_readWay 24 = .ok (.invokevirtual 335, 3) := by decide +kernel
theorem dX12_readWay_27 : decode cX12_readWay 27 = .ok (.iastore, 1) := by decide +kernel
theorem dX12_readWay_28 : decode cX12_readWay 28 = .ok (.aload_n 0, 1) := by decide +kernel
theorem dX12_readWay_29 : decode cX12_readWay 29 = .ok (.invokevirtual 265, 3) := by decide +kernel
theorem dX12_readWay_32 : decode cX12_readWay 32 = .ok (.ifCond .eq 7, 3) := by decide +kernel
theorem dX12_readWay_35 : decode cX12_readWay 35 = .ok (.aload_n 0, 1) := by decide +kernel
theorem dX12_readWay_36 : decode cX12_readWay 36 = .ok (.invokevirtual 269, 3) := by decide +kernel
theorem dX12_readWay_39 : decode cX12_readWay 39 = .ok (.aload_n 0, 1) := by decide +kernel
theorem dX12_readWay_40 : decode cX12_readWay 40 = .ok (.aload_n 0, 1) := by decide +kernel
theorem dX12_readWay_41 : decode cX12_readWay 41 = .ok (.ldc2_w 193, 3) := by decide +kernel
theorem dX12_readWay_44 : decode cX12_readWay 44 = .ok (.invokevirtual 275, 3) := by decide +kernel
theorem dX12_readWay_47 : decode cX12_readWay 47 = .ok (.invokevirtual 278, 3) := by decide +kernel
theorem dX12_readWay_50 : decode cX12_readWay 50 = .ok (.aload_n 0, 1) := by decide +kernel
theorem dX12_readWay_51 : decode cX12_readWay 51 = .ok (.getfield 48, 3) := by decide +kernel
theorem dX12_readWay_54 : decode cX12_readWay 54 = .ok (.iload_n 1, 1) := by decide +kernel
theorem dX12_readWay_55 : decode cX12_readWay 55 = .ok (.aload_n 0, 1) := by decide +kernel
theorem dX12_readWay_56 : decode cX12_readWay 56 = .ok (.invokevirtual 335, 3) := by decide +kernel
theorem dX12_readWay_59 : decode cX12_readWay 59 = .ok (.iastore, 1) := by decide +kernel
theorem dX12_readWay_60 : decode cX12_readWay 60 = .ok (.aload_n 0, 1) := by decide +kernel
theorem dX12_readWay_61 : decode cX12_readWay 61 = .ok (.invokevirtual 265, 3) := by decide +kernel
theorem dX12_readWay_64 : decode cX12_readWay 64 = .ok (.ifCond .eq 27, 3) := by decide +kernel
theorem dX12_readWay_67 : decode cX12_readWay 67 = .ok (.aload_n 0, 1) := by decide +kernel
theorem dX12_readWay_68 : decode cX12_readWay 68 = .ok (.getfield 48, 3) := by decide +kernel
theorem dX12_readWay_71 : decode cX12_readWay 71 = .ok (.iload_n 1, 1) := by decide +kernel
theorem dX12_readWay_72 : decode cX12_readWay 72 = .ok (.iaload, 1) := by decide +kernel
theorem dX12_readWay_73 : decode cX12_readWay 73 = .ok (.aload_n 0, 1) := by decide +kernel
theorem dX12_readWay_74 : decode cX12_readWay 74 = .ok (.getfield 45, 3) := by decide +kernel
theorem dX12_readWay_77 : decode cX12_readWay 77 = .ok (.iload_n 1, 1) := by decide +kernel
theorem dX12_readWay_78 : decode cX12_readWay 78 = .ok (.iaload, 1) := by decide +kernel
theorem dX12_readWay_79 : decode cX12_readWay 79 = .ok (.if_icmp .ne 12, 3) := by decide +kernel
theorem dX12_readWay_82 : decode cX12_readWay 82 = .ok (.aload_n 0, 1) := by decide +kernel
theorem dX12_readWay_83 : decode cX12_readWay 83 = .ok (.iconst 3, 1) := by decide +kernel
theorem dX12_readWay_84 : decode cX12_readWay 84 = .ok (.aload_n 0, 1) := by decide +kernel
theorem dX12_readWay_85 : decode cX12_readWay 85 = .ok (.getfield 230, 3) := by decide +kernel
theorem dX12_readWay_88 : decode cX12_readWay 88 = .ok (.invokevirtual 261, 3) := by decide +kernel
theorem dX12_readWay_91 : decode cX12_readWay 91 = .ok (.aload_n 0, 1) := by decide +kernel
theorem dX12_readWay_92 : decode cX12_readWay 92 = .ok (.invokevirtual 265, 3) := by decide +kernel
theorem dX12_readWay_95 : decode cX12_readWay 95 = .ok (.ifCond .eq 7, 3) := by decide +kernel
theorem dX12_readWay_98 : decode cX12_readWay 98 = .ok (.aload_n 0, 1) := by decide +kernel
theorem dX12_readWay_99 : decode cX12_readWay 99 = .ok (.invokevirtual 269, 3) := by decide +kernel
theorem dX12_readWay_102 : decode cX12_readWay 102 = .ok (.aload_n 0, 1) := by decide +kernel
theorem dX12_readWay_103 : decode cX12_readWay 103 = .ok (.getfield 51, 3) := by decide +kernel
theorem dX12_readWay_106 : decode cX12_readWay 106 = .ok (.iload_n 1, 1) := by decide +kernel
theorem dX12_readWay_107 : decode cX12_readWay 107 = .ok (.aload_n 0, 1) := by decide +kernel
theorem dX12_readWay_108 : decode cX12_readWay 108 = .ok (.iconst 1, 1) := by decide +kernel
theorem dX12_readWay_109 : decode cX12_readWay 109 = .ok (.bipush 40, 2) := by decide +kernel
theorem dX12_readWay_111 : decode cX12_readWay 111 = .ok (.invokevirtual 282, 3) := by decide +kernel
theorem dX12_readWay_114 : decode cX12_readWay 114 = .ok (.iastore, 1) := by decide +kernel
theorem dX12_readWay_115 : decode cX12_readWay 115 = .ok (.aload_n 0, 1) := by decide +kernel
theorem dX12_readWay_116 : decode cX12_readWay 116 = .ok (.getfield 54, 3) := by decide +kernel
theorem dX12_readWay_119 : decode cX12_readWay 119 = .ok (.iload_n 1, 1) := by decide +kernel
theorem dX12_readWay_120 : decode cX12_readWay 120 = .ok (.iconst 0, 1) := by decide +kernel
theorem dX12_readWay_121 : decode cX12_readWay 121 = .ok (.iastore, 1) := by decide +kernel
theorem dX12_readWay_122 : decode cX12_readWay 122 = .ok (.aload_n 0, 1) := by decide +kernel
theorem dX12_readWay_123 : decode cX12_readWay 123 = .ok (.invokevirtual 265, 3) := by decide +kernel
theorem dX12_readWay_126 : decode cX12_readWay 126 = .ok (.ifCond .eq 27, 3) := by decide +kernel
theorem dX12_readWay_129 : decode cX12_readWay 129 = .ok (.aload_n 0, 1) := by decide +kernel
theorem dX12_readWay_130 : decode cX12_readWay 130 = .ok (.ldc2_w 195, 3) := by decide +kernel
theorem dX12_readWay_133 : decode cX12_readWay 133 = .ok (.invokevirtual 275, 3) := by decide +kernel
theorem dX12_readWay_136 : decode cX12_readWay 136 = .ok (.ifCond .eq 17, 3) := by decide +kernel
theorem dX12_readWay_139 : decode cX12_readWay 139 = .ok (.aload_n 0, 1) := by decide +kernel
theorem dX12_readWay_140 : decode cX12_readWay 140 = .ok (.invokevirtual 269, 3) := by decide +kernel
theorem dX12_readWay_143 : decode cX12_readWay 143 = .ok (.aload_n 0, 1) := by decide +kernel
theorem dX12_readWay_144 : decode cX12_readWay 144 = .ok (.getfield 54, 3) := by decide +kernel
theorem dX12_readWay_147 : decode cX12_readWay 147 = .ok (.iload_n 1, 1) := by decide +kernel
theorem dX12_readWay_148 : decode cX12_readWay 148 = .ok (.aload_n 0, 1) := by decide +kernel
theorem dX12_readWay_149 : decode cX12_readWay 149 = .ok (.invokevirtual 339, 3) := by decide +kernel
theorem dX12_readWay_152 : decode cX12_readWay 152 = .ok (.iastore, 1) := by decide +kernel
theorem dX12_readWay_153 : decode cX12_readWay 153 = .ok (.aload_n 0, 1) := by decide +kernel
theorem dX12_readWay_154 : decode cX12_readWay 154 = .ok (.getfield 24, 3) := by decide +kernel
theorem dX12_readWay_157 : decode cX12_readWay 157 = .ok (.aload_n 0, 1) := by decide +kernel
theorem dX12_readWay_158 : decode cX12_readWay 158 = .ok (.getfield 286, 3) := by decide +kernel
theorem dX12_readWay_161 : decode cX12_readWay 161 = .ok (.dup2, 1) := by decide +kernel
theorem dX12_readWay_162 : decode cX12_readWay 162 = .ok (.iaload, 1) := by decide +kernel
theorem dX12_readWay_163 : decode cX12_readWay 163 = .ok (.iconst 1, 1) := by decide +kernel
theorem dX12_readWay_164 : decode cX12_readWay 164 = .ok (.iadd, 1) := by decide +kernel
theorem dX12_readWay_165 : decode cX12_readWay 165 = .ok (.iastore, 1) := by decide +kernel
theorem dX12_readWay_166 : decode cX12_readWay 166 = .ok (.return_, 1) := by decide +kernel
theorem dX12_signedNumber_0 : decode cX12_signedNumber 0 = .ok (.aload_n 0, 1) := by decide +kernel
theorem dX12_signedNumber_1 : decode cX12_signedNumber 1 = .ok (.getfield 230, 3) := by decide +kernel
theorem dX12_signedNumber_4 : decode cX12_signedNumber 4 = .ok (.istore_n 1, 1) := by decide +kernel
theorem dX12_signedNumber_5 : decode cX12_signedNumber 5 = .ok (.aload_n 0, 1) := by decide +kernel
theorem dX12_signedNumber_6 : decode cX12_signedNumber 6 = .ok (.bipush 45, 2) := by decide +kernel
theorem dX12_signedNumber_8 : decode cX12_signedNumber 8 = .ok (.invokevirtual 320, 3) := by decide +kernel
theorem dX12_signedNumber_11 : decode cX12_signedNumber 11 = .ok (.istore_n 2, 1) := by decide +kernel
theorem dX12_signedNumber_12 : decode cX12_signedNumber 12 = .ok (.iload_n 2, 1) := by decide +kernel
theorem dX12_signedNumber_13 : decode cX12_signedNumber 13 = .ok (.ifCond .eq 7, 3) := by decide +kernel
theorem dX12_signedNumber_16 : decode cX12_signedNumber 16 = .ok (.aload_n 0, 1) := by decide +kernel
theorem dX12_signedNumber_17 : decode cX12_signedNumber 17 = .ok (.invokevirtual 269, 3) := by decide +kernel
theorem dX12_signedNumber_20 : decode cX12_signedNumber 20 = .ok (.aload_n 0, 1) := by decide +kernel
theorem dX12_signedNumber_21 : decode cX12_signedNumber 21 = .ok (.getfield 237, 3) := by decide +kernel
theorem dX12_signedNumber_24 : decode cX12_signedNumber 24 = .ok (.iconst 4, 1) := by decide +kernel
theorem dX12_signedNumber_25 : decode cX12_signedNumber 25 = .ok (.if_icmp .eq 10, 3) := by decide +kernel
theorem dX12_signedNumber_28 : decode cX12_signedNumber 28 = .ok (.aload_n 0, 1) := by decide +kernel
theorem dX12_signedNumber_29 : decode cX12_signedNumber 29 = .ok (.invokevirtual 272, 3) := by decide +kernel
theorem dX12_signedNumber_32 : decode cX12_signedNumber 32 = .ok (.goto 18, 3) := by decide +kernel
theorem dX12_signedNumber_35 : decode cX12_signedNumber 35 = .ok (.aload_n 0, 1) := by decide +kernel
theorem dX12_signedNumber_36 : decode cX12_signedNumber 36 = .ok (.getfield 255, 3) := by decide +kernel
theorem dX12_signedNumber_39 : decode cX12_signedNumber 39 = .ok (.bipush 9, 2) := by decide +kernel
theorem dX12_signedNumber_41 : decode cX12_signedNumber 41 = .ok (.if_icmp .le 9, 3) := by decide +kernel
theorem dX12_signedNumber_44 : decode cX12_signedNumber 44 = .ok (.aload_n 0, 1) := by decide +kernel
theorem dX12_signedNumber_45 : decode cX12_signedNumber 45 = .ok (.iconst 4, 1) := by decide +kernel
theorem dX12_signedNumber_46 : decode cX12_signedNumber 46 = .ok (.iload_n 1, 1) := by decide +kernel
theorem dX12_signedNumber_47 : decode cX12_signedNumber 47 = .ok (.invokevirtual 261, 3) := by decide +kernel
theorem dX12_signedNumber_50 : decode cX12_signedNumber 50 = .ok (.iload_n 2, 1) := by decide +kernel
theorem dX12_signedNumber_51 : decode cX12_signedNumber 51 = .ok (.ifCond .eq 11, 3) := by decide +kernel
theorem dX12_signedNumber_54 : decode cX12_signedNumber 54 = .ok (.aload_n 0, 1) := by decide +kernel
theorem dX12_signedNumber_55 : decode cX12_signedNumber 55 = .ok (.getfield 255, 3) := by decide +kernel
theorem dX12_signedNumber_58 : decode cX12_signedNumber 58 = .ok (.ineg, 1) := by decide +kernel
theorem dX12_signedNumber_59 : decode cX12_signedNumber 59 = .ok (.goto 7, 3) := by decide +kernel
theorem dX12_signedNumber_62 : decode cX12_signedNumber 62 = .ok (.aload_n 0, 1) := by decide +kernel
theorem dX12_signedNumber_63 : decode cX12_signedNumber 63 = .ok (.getfield 255, 3) := by decide +kernel
theorem dX12_signedNumber_66 : decode cX12_signedNumber 66 = .ok (.istore_n 3, 1) := by decide +kernel
theorem dX12_signedNumber_67 : decode cX12_signedNumber 67 = .ok (.aload_n 0, 1) := by decide +kernel
theorem dX12_signedNumber_68 : decode cX12_signedNumber 68 = .ok (.invokevirtual 265, 3) := by decide +kernel
theorem dX12_signedNumber_71 : decode cX12_signedNumber 71 = .ok (.ifCond .eq 7, 3) := by decide +kernel
theorem dX12_signedNumber_74 : decode cX12_signedNumber 74 = .ok (.aload_n 0, 1) := by decide +kernel
theorem dX12_signedNumber_75 : decode cX12_signedNumber 75 = .ok (.invokevirtual 269, 3) := by decide +kernel
theorem dX12_signedNumber_78 : decode cX12_signedNumber 78 = .ok (.iload_n 3, 1) := by decide +kernel
theorem dX12_signedNumber_79 : decode cX12_signedNumber 79 = .ok (.ireturn, 1) := by decide +kernel
theorem dX12_readSoul_0 : decode cX12_readSoul 0 = .ok (.bipush 6, 2) := by decide +kernel
theorem dX12_readSoul_2 : decode cX12_readSoul 2 = .ok (.aload_n 0, 1) := by decide +kernel
theorem dX12_readSoul_3 : decode cX12_readSoul 3 = .ok (.getfield 286, 3) := by decide +kernel
theorem dX12_readSoul_6 : decode cX12_readSoul 6 = .ok (.imul, 1) := by decide +kernel
theorem dX12_readSoul_7 : decode cX12_readSoul 7 = .ok (.aload_n 0, 1) := by decide +kernel
theorem dX12_readSoul_8 : decode cX12_readSoul 8 = .ok (.getfield 27, 3) := by decide +kernel
theorem dX12_readSoul_11 : decode cX12_readSoul 11 = .ok (.aload_n 0, 1) := by decide +kernel
theorem dX12_readSoul_12 : decode cX12_readSoul 12 = .ok (.getfield 286, 3) := by decide +kernel
theorem dX12_readSoul_15 : decode cX12_readSoul 15 = .ok (.iaload, 1) := by decide +kernel
theorem dX12_readSoul_16 : decode cX12_readSoul 16 = .ok (.iadd, 1) := by decide +kernel
theorem dX12_readSoul_17 : decode cX12_readSoul 17 = .ok (.istore_n 1, 1) := by decide +kernel
theorem dX12_readSoul_18 : decode cX12_readSoul 18 = .ok (.aload_n 0, 1) := by decide +kernel
theorem dX12_readSoul_19 : decode cX12_readSoul 19 = .ok (.getfield 89, 3) := by decide +kernel
theorem dX12_readSoul_22 : decode cX12_readSoul 22 = .ok (.iload_n 1, 1) := by decide +kernel
theorem dX12_readSoul_23 : decode cX12_readSoul 23 = .ok (.aload_n 0, 1) := by decide +kernel
theorem dX12_readSoul_24 : decode cX12_readSoul 24 = .ok (.aload_n 0, 1) := by decide +kernel
theorem dX12_readSoul_25 : decode cX12_readSoul 25 = .ok (.aload_n 0, 1) := by decide +kernel
theorem dX12_readSoul_26 : decode cX12_readSoul 26 = .ok (.getfield 89, 3) := by decide +kernel
theorem dX12_readSoul_29 : decode cX12_readSoul 29 = .ok (.bipush 6, 2) := by decide +kernel
theorem dX12_readSoul_31 : decode cX12_readSoul 31 = .ok (.aload_n 0, 1) := by decide +kernel
theorem dX12_readSoul_32 : decode cX12_readSoul 32 = .ok (.getfield 286, 3) := by decide +kernel
theorem dX12_readSoul_35 : decode cX12_readSoul 35 = .ok (.imul, 1) := by decide +kernel
theorem dX12_readSoul_36 : decode cX12_readSoul 36 = .ok (.aload_n 0, 1) := by decide +kernel
theorem dX12_readSoul_37 : decode cX12_readSoul 37 = .ok (.getfield 27, 3) := by decide +kernel
theorem dX12_readSoul_40 : decode cX12_readSoul 40 = .ok (.aload_n 0, 1) := by decide +kernel
theorem dX12_readSoul_41 : decode cX12_readSoul 41 = .ok (.getfield 286, 3) := by decide +kernel
theorem dX12_readSoul_44 : decode cX12_readSoul 44 = .ok (.iaload, 1) := by decide +kernel
theorem dX12_readSoul_45 : decode cX12_readSoul 45 = .ok (.invokevirtual 323, 3) := by decide +kernel
theorem dX12_readSoul_48 : decode cX12_readSoul 48 = .ok (.invokevirtual 327, 3) := by decide +kernel
theorem dX12_readSoul_51 : decode cX12_readSoul 51 = .ok (.lastore, 1) := by decide +kernel
theorem dX12_readSoul_52 : decode cX12_readSoul 52 = .ok (.aload_n 0, 1) := by decide +kernel
theorem dX12_readSoul_53 : decode cX12_readSoul 53 = .ok (.getfield 57, 3) := by decide +kernel
theorem dX12_readSoul_56 : decode cX12_readSoul 56 = .ok (.iload_n 1, 1) := by decide +kernel
theorem dX12_readSoul_57 : decode cX12_readSoul 57 = .ok (.aload_n 0, 1) := by decide +kernel
theorem dX12_readSoul_58 : decode cX12_readSoul 58 = .ok (.ldc2_w 199, 3) := by decide +kernel
theorem dX12_readSoul_61 : decode cX12_readSoul 61 = .ok (.iconst 0, 1) := by decide +kernel
theorem dX12_readSoul_62 : decode cX12_readSoul 62 = .ok (.bipush 9, 2) := by decide +kernel
theorem dX12_readSoul_64 : decode cX12_readSoul 64 = .ok (.invokevirtual 331, 3) := by decide +kernel
theorem dX12_readSoul_67 : decode cX12_readSoul 67 = .ok (.iastore, 1) := by decide +kernel
theorem dX12_readSoul_68 : decode cX12_readSoul 68 = .ok (.aload_n 0, 1) := by decide +kernel
theorem dX12_readSoul_69 : decode cX12_readSoul 69 = .ok (.getfield 60, 3) := by decide +kernel
theorem dX12_readSoul_72 : decode cX12_readSoul 72 = .ok (.iload_n 1, 1) := by decide +kernel
theorem dX12_readSoul_73 : decode cX12_readSoul 73 = .ok (.aload_n 0, 1) := by decide +kernel
theorem dX12_readSoul_74 : decode cX12_readSoul 74 = .ok (.ldc2_w 201, 3) := by decide +kernel
theorem dX12_readSoul_77 : decode cX12_readSoul 77 = .ok (.iconst 0, 1) := by decide +kernel
theorem dX12_readSoul_78 : decode cX12_readSoul 78 = .ok (.bipush 9, 2) := by decide +kernel
theorem dX12_readSoul_80 : decode cX12_readSoul 80 = .ok (.invokevirtual 331, 3) := by decide +kernel
theorem dX12_readSoul_83 : decode cX12_readSoul 83 = .ok (.iastore, 1) := by decide +kernel
theorem dX12_readSoul_84 : decode cX12_readSoul 84 = .ok (.aload_n 0, 1) := by decide +kernel
theorem dX12_readSoul_85 : decode cX12_readSoul 85 = .ok (.getfield 27, 3) := by decide +kernel
theorem dX12_readSoul_88 : decode cX12_readSoul 88 = .ok (.aload_n 0, 1) := by decide +kernel
theorem dX12_readSoul_89 : decode cX12_readSoul 89 = .ok (.getfield 286, 3) := by decide +kernel
theorem dX12_readSoul_92 : decode cX12_readSoul 92 = .ok (.dup2, 1) := by decide +kernel
theorem dX12_readSoul_93 : decode cX12_readSoul 93 = .ok (.iaload, 1) := by decide +kernel
theorem dX12_readSoul_94 : decode cX12_readSoul 94 = .ok (.iconst 1, 1) := by decide +kernel
theorem dX12_readSoul_95 : decode cX12_readSoul 95 = .ok (.iadd, 1) := by decide +kernel
theorem dX12_readSoul_96 : decode cX12_readSoul 96 = .ok (.iastore, 1) := by decide +kernel
theorem dX12_readSoul_97 : decode cX12_readSoul 97 = .ok (.return_, 1) := by decide +kernel
theorem dX12_readMatter_0 : decode cX12_readMatter 0 = .ok (.bipush 6, 2) := by decide +kernel
theorem dX12_readMatter_2 : decode cX12_readMatter 2 = .ok (.aload_n 0, 1) := by decide +kernel
theorem dX12_readMatter_3 : decode cX12_readMatter 3 = .ok (.getfield 286, 3) := by decide +kernel
theorem dX12_readMatter_6 : decode cX12_readMatter 6 = .ok (.imul, 1) := by decide +kernel
theorem dX12_readMatter_7 : decode cX12_readMatter 7 = .ok (.aload_n 0, 1) := by decide +kernel
theorem dX12_readMatter_8 : decode cX12_readMatter 8 = .ok (.getfield 30, 3) := by decide +kernel
theorem dX12_readMatter_11 : decode cX12_readMatter 11 = .ok (.aload_n 0, 1) := by decide +kernel
theorem dX12_readMatter_12 : decode cX12_readMatter 12 = .ok (.getfield 286, 3) := by decide +kernel
theorem dX12_readMatter_15 : decode cX12_readMatter 15 = .ok (.iaload, 1) := by decide +kernel
theorem dX12_readMatter_16 : decode cX12_readMatter 16 = .ok (.iadd, 1) := by decide +kernel
theorem dX12_readMatter_17 : decode cX12_readMatter 17 = .ok (.istore_n 1, 1) := by decide +kernel
theorem dX12_readMatter_18 : decode cX12_readMatter 18 = .ok (.aload_n 0, 1) := by decide +kernel
theorem dX12_readMatter_19 : decode cX12_readMatter 19 = .ok (.getfield 92, 3) := by decide +kernel
theorem dX12_readMatter_22 : decode cX12_readMatter 22 = .ok (.iload_n 1, 1) := by decide +kernel
theorem dX12_readMatter_23 : decode cX12_readMatter 23 = .ok (.aload_n 0, 1) := by decide +kernel
theorem dX12_readMatter_24 : decode cX12_readMatter 24 = .ok (.aload_n 0, 1) := by decide +kernel
theorem dX12_readMatter_25 : decode cX12_readMatter 25 = .ok (.aload_n 0, 1) := by decide +kernel
theorem dX12_readMatter_26 : decode cX12_readMatter 26 = .ok (.getfield 92, 3) := by decide +kernel
theorem dX12_readMatter_29 : decode cX12_readMatter 29 = .ok (.bipush 6, 2) := by decide +kernel
theorem dX12_readMatter_31 : decode cX12_readMatter 31 = .ok (.aload_n 0, 1) := by decide +kernel
theorem dX12_readMatter_32 : decode cX12_readMatter 32 = .ok (.getfield 286, 3) := by decide +kernel
theorem dX12_readMatter_35 : decode cX12_readMatter 35 = .ok (.imul, 1) := by decide +kernel
theorem dX12_readMatter_36 : decode cX12_readMatter 36 = .ok (.aload_n 0, 1) := by decide +kernel
theorem dX12_readMatter_37 : decode cX12_readMatter 37 = .ok (.getfield 30, 3) := by decide +kernel
theorem dX12_readMatter_40 : decode cX12_readMatter 40 = .ok (.aload_n 0, 1) := by decide +kernel
theorem dX12_readMatter_41 : decode cX12_readMatter 41 = .ok (.getfield 286, 3) := by decide +kernel
theorem dX12_readMatter_44 : decode cX12_readMatter 44 = .ok (.iaload, 1) := by decide +kernel
theorem dX12_readMatter_45 : decode cX12_readMatter 45 = .ok (.invokevirtual 323, 3) := by decide +kernel
theorem dX12_readMatter_48 : decode cX12_readMatter 48 = .ok (.invokevirtual 327, 3) := by decide +kernel
theorem dX12_readMatter_51 : decode cX12_readMatter 51 = .ok (.lastore, 1) := by decide +kernel
theorem dX12_readMatter_52 : decode cX12_readMatter 52 = .ok (.aload_n 0, 1) := by decide +kernel
theorem dX12_readMatter_53 : decode cX12_readMatter 53 = .ok (.getfield 63, 3) := by decide +kernel
theorem dX12_readMatter_56 : decode cX12_readMatter 56 = .ok (.iload_n 1, 1) := by decide +kernel
theorem dX12_readMatter_57 : decode cX12_readMatter 57 = .ok (.aload_n 0, 1) := by decide +kernel
theorem dX12_readMatter_58 : decode cX12_readMatter 58 = .ok (.ldc2_w 205, 3) := by decide +kernel
theorem dX12_readMatter_61 : decode cX12_readMatter 61 = .ok (.iconst 1, 1) := by decide +kernel
theorem dX12_readMatter_62 : decode cX12_readMatter 62 = .ok (.bipush 99, 2) := by decide +kernel
theorem dX12_readMatter_64 : decode cX12_readMatter 64 = .ok (.invokevirtual 331, 3) := by decide +kernel
theorem dX12_readMatter_67 : decode cX12_readMatter 67 = .ok (.iastore, 1) := by decide +kernel
theorem dX12_readMatter_68 : decode cX12_readMatter 68 = .ok (.aload_n 0, 1) := by decide +kernel
theorem dX12_readMatter_69 : decode cX12_readMatter 69 = .ok (.aload_n 0, 1) := by decide +kernel
theorem dX12_readMatter_70 : decode cX12_readMatter 70 = .ok (.ldc2_w 207, 3) := by decide +kernel
theorem dX12_readMatter_73 : decode cX12_readMatter 73 = .ok (.invokevirtual 275, 3) := by decide +kernel
theorem dX12_readMatter_76 : decode cX12_readMatter 76 = .ok (.invokevirtual 278, 3) := by decide +kernel
theorem dX12_readMatter_79 : decode cX12_readMatter 79 = .ok (.aload_n 0, 1) := by decide +kernel
theorem dX12_readMatter_80 : decode cX12_readMatter 80 = .ok (.getfield 66, 3) := by decide +kernel
theorem dX12_readMatter_83 : decode cX12_readMatter 83 = .ok (.iload_n 1, 1) := by decide +kernel
theorem dX12_readMatter_84 : decode cX12_readMatter 84 = .ok (.iconst 0, 1) := by decide +kernel
theorem dX12_readMatter_85 : decode cX12_readMatter 85 = .ok (.iastore, 1) := by decide +kernel
theorem dX12_readMatter_86 : decode cX12_readMatter 86 = .ok (.aload_n 0, 1) := by decide +kernel
theorem dX12_readMatter_87 : decode cX12_readMatter 87 = .ok (.invokevirtual 265, 3) := by decide +kernel
theorem dX12_readMatter_90 : decode cX12_readMatter 90 = .ok (.ifCond .eq 86, 3) := by decide +kernel
theorem dX12_readMatter_93 : decode cX12_readMatter 93 = .ok (.aload_n 0, 1) := by decide +kernel
theorem dX12_readMatter_94 : decode cX12_readMatter 94 = .ok (.getfield 66, 3) := by decide +kernel
theorem dX12_readMatter_97 : decode cX12_readMatter 97 = .ok (.iload_n 1, 1) := by decide +kernel
theorem dX12_readMatter_98 : decode cX12_readMatter 98 = .ok (.iaload, 1) := by decide +kernel
theorem dX12_readMatter_99 : decode cX12_readMatter 99 = .ok (.ifCond .eq 11, 3) := by decide +kernel
theorem dX12_readMatter_102 : decode cX12_readMatter 102 = .ok (.aload_n 0, 1) := by decide +kernel
theorem dX12_readMatter_103 : decode cX12_readMatter 103 = .ok (.getfield 237, 3) := by decide +kernel
theorem dX12_readMatter_106 : decode cX12_readMatter 106 = .ok (.iconst 4, 1) := by decide +kernel
theorem dX12_readMatter_107 : decode cX12_readMatter 107 = .ok (.if_icmp .ne 69, 3) := by decide +kernel
theorem dX12_readMatter_110 : decode cX12_readMatter 110 = .ok (.aload_n 0, 1) := by decide +kernel
theorem dX12_readMatter_111 : decode cX12_readMatter 111 = .ok (.getfield 66, 3) := by decide +kernel
theorem dX12_readMatter_114 : decode cX12_readMatter 114 = .ok (.iload_n 1, 1) := by decide +kernel
theorem dX12_readMatter_115 : decode cX12_readMatter 115 = .ok (.iaload, 1) := by decide +kernel
theorem dX12_readMatter_116 : decode cX12_readMatter 116 = .ok (.bipush 8, 2) := by decide +kernel
theorem dX12_readMatter_118 : decode cX12_readMatter 118 = .ok (.if_icmp .ne 7, 3) := by decide +kernel
theorem dX12_readMatter_121 : decode cX12_readMatter 121 = .ok (.aload_n 0, 1) := by decide +kernel
theorem dX12_readMatter_122 : decode cX12_readMatter 122 = .ok (.invokevirtual 272, 3) := by decide +kernel
theorem dX12_readMatter_125 : decode cX12_readMatter 125 = .ok (.aload_n 0, 1) := by decide +kernel
theorem dX12_readMatter_126 : decode cX12_readMatter 126 = .ok (.getfield 69, 3) := by decide +kernel
theorem dX12_readMatter_129 : decode cX12_readMatter 129 = .ok (.bipush 8, 2) := by decide +kernel
theorem dX12_readMatter_131 : decode cX12_readMatter 131 = .ok (.iload_n 1, 1) := by decide +kernel
theorem dX12_readMatter_132 : decode cX12_readMatter 132 = .ok (.imul, 1) := by decide +kernel
theorem dX12_readMatter_133 : decode cX12_readMatter 133 = .ok (.aload_n 0, 1) := by decide +kernel
theorem dX12_readMatter_134 : decode cX12_readMatter 134 = .ok (.getfield 66, 3) := by decide +kernel
theorem dX12_readMatter_137 : decode cX12_readMatter 137 = .ok (.iload_n 1, 1) := by decide +kernel
theorem dX12_readMatter_138 : decode cX12_readMatter 138 = .ok (.iaload, 1) := by decide +kernel
theorem dX12_readMatter_139 : decode cX12_readMatter 139 = .ok (.bipush 8, 2) := by decide +kernel
theorem dX12_readMatter_141 : decode cX12_readMatter 141 = .ok (.if_icmp .ge 12, 3) := by decide +kernel
theorem dX12_readMatter_144 : decode cX12_readMatter 144 = .ok (.aload_n 0, 1) := by decide +kernel
theorem dX12_readMatter_145 : decode cX12_readMatter 145 = .ok (.getfield 66, 3) := by decide +kernel
theorem dX12_readMatter_148 : decode cX12_readMatter 148 = .ok (.iload_n 1, 1) := by decide +kernel
theorem dX12_readMatter_149 : decode cX12_readMatter 149 = .ok (.iaload, 1) := by decide +kernel
theorem dX12_readMatter_150 : decode cX12_readMatter 150 = .ok (.goto 4, 3) := by decide +kernel
theorem dX12_readMatter_153 : decode cX12_readMatter 153 = .ok (.iconst 0, 1) := by decide +kernel
theorem dX12_readMatter_154 : decode cX12_readMatter 154 = .ok (.iadd, 1) := by decide +kernel
theorem dX12_readMatter_155 : decode cX12_readMatter 155 = .ok (.aload_n 0, 1) := by decide +kernel
theorem dX12_readMatter_156 : decode cX12_readMatter 156 = .ok (.iconst 1, 1) := by decide +kernel
theorem dX12_readMatter_157 : decode cX12_readMatter 157 = .ok (.bipush 9, 2) := by decide +kernel
theorem dX12_readMatter_159 : decode cX12_readMatter 159 = .ok (.invokevirtual 282, 3) := by decide +kernel
theorem dX12_readMatter_162 : decode cX12_readMatter 162 = .ok (.iastore, 1) := by decide +kernel
theorem dX12_readMatter_163 : decode cX12_readMatter 163 = .ok (.aload_n 0, 1) := by decide +kernel
theorem dX12_readMatter_164 : decode cX12_readMatter 164 = .ok (.getfield 66, 3) := by decide +kernel
theorem dX12_readMatter_167 : decode cX12_readMatter 167 = .ok (.iload_n 1, 1) := by decide +kernel
theorem dX12_readMatter_168 : decode cX12_readMatter 168 = .ok (.dup2, 1) := by decide +kernel
theorem dX12_readMatter_169 : decode cX12_readMatter 169 = .ok (.iaload, 1) := by decide +kernel
theorem dX12_readMatter_170 : decode cX12_readMatter 170 = .ok (.iconst 1, 1) := by decide +kernel
theorem dX12_readMatter_171 : decode cX12_readMatter 171 = .ok (.iadd, 1) := by decide +kernel
theorem dX12_readMatter_172 : decode cX12_readMatter 172 = .ok (.iastore, 1) := by decide +kernel
theorem dX12_readMatter_173 : decode cX12_readMatter 173 = .ok (.goto (-87), 3) := by decide +kernel
theorem dX12_readMatter_176 : decode cX12_readMatter 176 = .ok (.aload_n 0, 1) := by decide +kernel
theorem dX12_readMatter_177 : decode cX12_readMatter 177 = .ok (.getfield 30, 3) := by decide +kernel
theorem dX12_readMatter_180 : decode cX12_readMatter 180 = .ok (.aload_n 0, 1) := by decide +kernel
theorem dX12_readMatter_181 : decode cX12_readMatter 181 = .ok (.getfield 286, 3) := by decide +kernel
theorem dX12_readMatter_184 : decode cX12_readMatter 184 = .ok (.dup2, 1) := by decide +kernel
theorem dX12_readMatter_185 : decode cX12_readMatter 185 = .ok (.iaload, 1) := by decide +kernel
theorem dX12_readMatter_186 : decode cX12_readMatter 186 = .ok (.iconst 1, 1) := by decide +kernel
theorem dX12_readMatter_187 : decode cX12_readMatter 187 = .ok (.iadd, 1) := by decide +kernel
theorem dX12_readMatter_188 : decode cX12_readMatter 188 = .ok (.iastore, 1) := by decide +kernel
theorem dX12_readMatter_189 : decode cX12_readMatter 189 = .ok (.return_, 1) := by decide +kernel
theorem dX12_readRule_0 : decode cX12_readRule 0 = .ok (.aload_n 0, 1) := by decide +kernel
theorem dX12_readRule_1 : decode cX12_readRule 1 = .ok (.iconst 0, 1) := by decide +kernel
theorem dX12_readRule_2 : decode cX12_readRule 2 = .ok (.putfield 342, 3) := by decide +kernel
theorem dX12_readRule_5 : decode cX12_readRule 5 = .ok (.aload_n 0, 1) := by decide +kernel
theorem dX12_readRule_6 : decode cX12_readRule 6 = .ok (.getfield 82, 3) := by decide +kernel
theorem dX12_readRule_9 : decode cX12_readRule 9 = .ok (.iconst 2, 1) := by decide +kernel
theorem dX12_readRule_10 : decode cX12_readRule 10 = .ok (.aload_n 0, 1) := by decide +kernel
theorem dX12_readRule_11 : decode cX12_readRule 11 = .ok (.getfield 286, 3) := by decide +kernel
theorem dX12_readRule_14 : decode cX12_readRule 14 = .ok (.imul, 1) := by decide +kernel
theorem dX12_readRule_15 : decode cX12_readRule 15 = .ok (.iload_n 1, 1) := by decide +kernel
theorem dX12_readRule_16 : decode cX12_readRule 16 = .ok (.iadd, 1) := by decide +kernel
theorem dX12_readRule_17 : decode cX12_readRule 17 = .ok (.iconst 1, 1) := by decide +kernel
theorem dX12_readRule_18 : decode cX12_readRule 18 = .ok (.bastore, 1) := by decide +kernel
theorem dX12_readRule_19 : decode cX12_readRule 19 = .ok (.aload_n 0, 1) := by decide +kernel
theorem dX12_readRule_20 : decode cX12_readRule 20 = .ok (.getfield 72, 3) := by decide +kernel
theorem dX12_readRule_23 : decode cX12_readRule 23 = .ok (.iconst 2, 1) := by decide +kernel
theorem dX12_readRule_24 : decode cX12_readRule 24 = .ok (.aload_n 0, 1) := by decide +kernel
theorem dX12_readRule_25 : decode cX12_readRule 25 = .ok (.getfield 286, 3) := by decide +kernel
theorem dX12_readRule_28 : decode cX12_readRule 28 = .ok (.imul, 1) := by decide +kernel
theorem dX12_readRule_29 : decode cX12_readRule 29 = .ok (.iload_n 1, 1) := by decide +kernel
theorem dX12_readRule_30 : decode cX12_readRule 30 = .ok (.iadd, 1) := by decide +kernel
theorem dX12_readRule_31 : decode cX12_readRule 31 = .ok (.aload_n 0, 1) := by decide +kernel
theorem dX12_readRule_32 : decode cX12_readRule 32 = .ok (.getfield 289, 3) := by decide +kernel
theorem dX12_readRule_35 : decode cX12_readRule 35 = .ok (.iastore, 1) := by decide +kernel
theorem dX12_readRule_36 : decode cX12_readRule 36 = .ok (.aload_n 0, 1) := by decide +kernel
theorem dX12_readRule_37 : decode cX12_readRule 37 = .ok (.invokevirtual 345, 3) := by decide +kernel
theorem dX12_readRule_40 : decode cX12_readRule 40 = .ok (.aload_n 0, 1) := by decide +kernel
theorem dX12_readRule_41 : decode cX12_readRule 41 = .ok (.getfield 75, 3) := by decide +kernel
theorem dX12_readRule_44 : decode cX12_readRule 44 = .ok (.iconst 2, 1) := by decide +kernel
theorem dX12_readRule_45 : decode cX12_readRule 45 = .ok (.aload_n 0, 1) := by decide +kernel
theorem dX12_readRule_46 : decode cX12_readRule 46 = .ok (.getfield 286, 3) := by decide +kernel
theorem dX12_readRule_49 : decode cX12_readRule 49 = .ok (.imul, 1) := by decide +kernel
theorem dX12_readRule_50 : decode cX12_readRule 50 = .ok (.iload_n 1, 1) := by decide +kernel
theorem dX12_readRule_51 : decode cX12_readRule 51 = .ok (.iadd, 1) := by decide +kernel
theorem dX12_readRule_52 : decode cX12_readRule 52 = .ok (.aload_n 0, 1) := by decide +kernel
theorem dX12_readRule_53 : decode cX12_readRule 53 = .ok (.getfield 289, 3) := by decide +kernel
theorem dX12_readRule_56 : decode cX12_readRule 56 = .ok (.iastore, 1) := by decide +kernel
theorem dX12_readRule_57 : decode cX12_readRule 57 = .ok (.return_, 1) := by decide +kernel
theorem dX12_emit_0 : decode cX12_emit 0 = .ok (.aload_n 0, 1) := by decide +kernel
theorem dX12_emit_1 : decode cX12_emit 1 = .ok (.getfield 95, 3) := by decide +kernel
theorem dX12_emit_4 : decode cX12_emit 4 = .ok (.aload_n 0, 1) := by decide +kernel
theorem dX12_emit_5 : decode cX12_emit 5 = .ok (.getfield 289, 3) := by decide +kernel
theorem dX12_emit_8 : decode cX12_emit 8 = .ok (.iload_n 1, 1) := by decide +kernel
theorem dX12_emit_9 : decode cX12_emit 9 = .ok (.iastore, 1) := by decide +kernel
theorem dX12_emit_10 : decode cX12_emit 10 = .ok (.aload_n 0, 1) := by decide +kernel
theorem dX12_emit_11 : decode cX12_emit 11 = .ok (.getfield 98, 3) := by decide +kernel
theorem dX12_emit_14 : decode cX12_emit 14 = .ok (.aload_n 0, 1) := by decide +kernel
theorem dX12_emit_15 : decode cX12_emit 15 = .ok (.getfield 289, 3) := by decide +kernel
theorem dX12_emit_18 : decode cX12_emit 18 = .ok (.iload_n 2, 1) := by decide +kernel
theorem dX12_emit_19 : decode cX12_emit 19 = .ok (.iastore, 1) := by decide +kernel
theorem dX12_emit_20 : decode cX12_emit 20 = .ok (.aload_n 0, 1) := by decide +kernel
theorem dX12_emit_21 : decode cX12_emit 21 = .ok (.dup, 1) := by decide +kernel
theorem dX12_emit_22 : decode cX12_emit 22 = .ok (.getfield 289, 3) := by decide +kernel
theorem dX12_emit_25 : decode cX12_emit 25 = .ok (.iconst 1, 1) := by decide +kernel
theorem dX12_emit_26 : decode cX12_emit 26 = .ok (.iadd, 1) := by decide +kernel
theorem dX12_emit_27 : decode cX12_emit 27 = .ok (.putfield 289, 3) := by decide +kernel
theorem dX12_emit_30 : decode cX12_emit 30 = .ok (.return_, 1) := by decide +kernel
theorem dX12_pushE_0 : decode cX12_pushE 0 = .ok (.aload_n 0, 1) := by decide +kernel
theorem dX12_pushE_1 : decode cX12_pushE 1 = .ok (.getfield 101, 3) := by decide +kernel
theorem dX12_pushE_4 : decode cX12_pushE 4 = .ok (.aload_n 0, 1) := by decide +kernel
theorem dX12_pushE_5 : decode cX12_pushE 5 = .ok (.getfield 348, 3) := by decide +kernel
theorem dX12_pushE_8 : decode cX12_pushE 8 = .ok (.iload_n 1, 1) := by decide +kernel
theorem dX12_pushE_9 : decode cX12_pushE 9 = .ok (.iastore, 1) := by decide +kernel
theorem dX12_pushE_10 : decode cX12_pushE 10 = .ok (.aload_n 0, 1) := by decide +kernel
theorem dX12_pushE_11 : decode cX12_pushE 11 = .ok (.getfield 104, 3) := by decide +kernel
theorem dX12_pushE_14 : decode cX12_pushE 14 = .ok (.aload_n 0, 1) := by decide +kernel
theorem dX12_pushE_15 : decode cX12_pushE 15 = .ok (.getfield 348, 3) := by decide +kernel
theorem dX12_pushE_18 : decode cX12_pushE 18 = .ok (.iload_n 2, 1) := by decide +kernel
theorem dX12_pushE_19 : decode cX12_pushE 19 = .ok (.iastore, 1) := by decide +kernel
theorem dX12_pushE_20 : decode cX12_pushE 20 = .ok (.aload_n 0, 1) := by decide +kernel
theorem dX12_pushE_21 : decode cX12_pushE 21 = .ok (.dup, 1) := by decide +kernel
theorem dX12_pushE_22 : decode cX12_pushE 22 = .ok (.getfield 348, 3) := by decide +kernel
theorem dX12_pushE_25 : decode cX12_pushE 25 = .ok (.iconst 1, 1) := by decide +kernel
theorem dX12_pushE_26 : decode cX12_pushE 26 = .ok (.iadd, 1) := by decide +kernel
theorem dX12_pushE_27 : decode cX12_pushE 27 = .ok (.putfield 348, 3) := by decide +kernel
theorem dX12_pushE_30 : decode cX12_pushE 30 = .ok (.return_, 1) := by decide +kernel
theorem dX12_e_0 : decode cX12_e 0 = .ok (.aload_n 0, 1) := by decide +kernel
theorem dX12_e_1 : decode cX12_e 1 = .ok (.iconst 0, 1) := by decide +kernel
theorem dX12_e_2 : decode cX12_e 2 = .ok (.putfield 348, 3) := by decide +kernel
theorem dX12_e_5 : decode cX12_e 5 = .ok (.aload_n 0, 1) := by decide +kernel
theorem dX12_e_6 : decode cX12_e 6 = .ok (.iconst 0, 1) := by decide +kernel
theorem dX12_e_7 : decode cX12_e 7 = .ok (.putfield 351, 3) := by decide +kernel
theorem dX12_e_10 : decode cX12_e 10 = .ok (.aload_n 0, 1) := by decide +kernel
theorem dX12_e_11 : decode cX12_e 11 = .ok (.bipush 8, 2) := by decide +kernel
theorem dX12_e_13 : decode cX12_e 13 = .ok (.iconst 0, 1) := by decide +kernel
theorem dX12_e_14 : decode cX12_e 14 = .ok (.invokevirtual 354, 3) := by decide +kernel
theorem dX12_e_17 : decode cX12_e 17 = .ok (.iconst 1, 1) := by decide +kernel
theorem dX12_e_18 : decode cX12_e 18 = .ok (.istore_n 1, 1) := by decide +kernel
theorem dX12_e_19 : decode cX12_e 19 = .ok (.aload_n 0, 1) := by decide +kernel
theorem dX12_e_20 : decode cX12_e 20 = .ok (.invokevirtual 265, 3) := by decide +kernel
theorem dX12_e_23 : decode cX12_e 23 = .ok (.ifCond .eq 29, 3) := by decide +kernel
theorem dX12_e_26 : decode cX12_e 26 = .ok (.aload_n 0, 1) := by decide +kernel
theorem dX12_e_27 : decode cX12_e 27 = .ok (.getfield 348, 3) := by decide +kernel
theorem dX12_e_30 : decode cX12_e 30 = .ok (.ifCond .le 22, 3) := by decide +kernel
theorem dX12_e_33 : decode cX12_e 33 = .ok (.iload_n 1, 1) := by decide +kernel
theorem dX12_e_34 : decode cX12_e 34 = .ok (.ifCond .eq 10, 3) := by decide +kernel
theorem dX12_e_37 : decode cX12_e 37 = .ok (.aload_n 0, 1) := by decide +kernel
theorem dX12_e_38 : decode cX12_e 38 = .ok (.invokevirtual 357, 3) := by decide +kernel
theorem dX12_e_41 : decode cX12_e 41 = .ok (.goto 7, 3) := by decide +kernel
theorem dX12_e_44 : decode cX12_e 44 = .ok (.aload_n 0, 1) := by decide +kernel
theorem dX12_e_45 : decode cX12_e 45 = .ok (.invokevirtual 360, 3) := by decide +kernel
theorem dX12_e_48 : decode cX12_e 48 = .ok (.istore_n 1, 1) := by decide +kernel
theorem dX12_e_49 : decode cX12_e 49 = .ok (.goto (-30), 3) := by decide +kernel
theorem dX12_e_52 : decode cX12_e 52 = .ok (.return_, 1) := by decide +kernel
theorem dX12_wordHere_0 : decode cX12_wordHere 0 = .ok (.aload_n 0, 1) := by decide +kernel
theorem dX12_wordHere_1 : decode cX12_wordHere 1 = .ok (.ldc2_w 209, 3) := by decide +kernel
theorem dX12_wordHere_4 : decode cX12_wordHere 4 = .ok (.invokevirtual 275, 3) := by decide +kernel
theorem dX12_wordHere_7 : decode cX12_wordHere 7 = .ok (.ifCond .eq 6, 3) := by decide +kernel
theorem dX12_wordHere_10 : decode cX12_wordHere 10 = .ok (.bipush 104, 2) := by decide +kernel
theorem dX12_wordHere_12 : decode cX12_wordHere 12 = .ok (.ireturn, 1) := by decide +kernel
theorem dX12_wordHere_13 : decode cX12_wordHere 13 = .ok (.aload_n 0, 1) := by decide +kernel
theorem dX12_wordHere_14 : decode cX12_wordHere 14 = .ok (.ldc2_w 215, 3) := by decide +kernel
theorem dX12_wordHere_17 : decode cX12_wordHere 17 = .ok (.invokevirtual 275, 3) := by decide +kernel
theorem dX12_wordHere_20 : decode cX12_wordHere 20 = .ok (.ifCond .eq 6, 3) := by decide +kernel
theorem dX12_wordHere_23 : decode cX12_wordHere 23 = .ok (.bipush 103, 2) := by decide +kernel
theorem dX12_wordHere_25 : decode cX12_wordHere 25 = .ok (.ireturn, 1) := by decide +kernel
theorem dX12_wordHere_26 : decode cX12_wordHere 26 = .ok (.aload_n 0, 1) := by decide +kernel
theorem dX12_wordHere_27 : decode cX12_wordHere 27 = .ok (.ldc2_w 199, 3) := by decide +kernel
theorem dX12_wordHere_30 : decode cX12_wordHere 30 = .ok (.invokevirtual 275, 3) := by decide +kernel
theorem dX12_wordHere_33 : decode cX12_wordHere 33 = .ok (.ifCond .eq 6, 3) := by decide +kernel
theorem dX12_wordHere_36 : decode cX12_wordHere 36 = .ok (.bipush 115, 2) := by decide +kernel
theorem dX12_wordHere_38 : decode cX12_wordHere 38 = .ok (.ireturn, 1) := by decide +kernel
theorem dX12_wordHere_39 : decode cX12_wordHere 39 = .ok (.aload_n 0, 1) := by decide +kernel
theorem dX12_wordHere_40 : decode cX12_wordHere 40 = .ok (.ldc2_w 201, 3) := by decide +kernel
theorem dX12_wordHere_43 : decode cX12_wordHere 43 = .ok (.invokevirtual 275, 3) := by decide +kernel
theorem dX12_wordHere_46 : decode cX12_wordHere 46 = .ok (.ifCond .eq 6, 3) := by decide +kernel
theorem dX12_wordHere_49 : decode cX12_wordHere 49 = .ok (.bipush 98, 2) := by decide +kernel
theorem dX12_wordHere_51 : decode cX12_wordHere 51 = .ok (.ireturn, 1) := by decide +kernel
theorem dX12_wordHere_52 : decode cX12_wordHere 52 = .ok (.aload_n 0, 1) := by decide +kernel
theorem dX12_wordHere_53 : decode cX12_wordHere 53 = .ok (.ldc2_w 217, 3) := by decide +kernel
theorem dX12_wordHere_56 : decode cX12_wordHere 56 = .ok (.invokevirtual 275, 3) := by decide +kernel
theorem dX12_wordHere_59 : decode cX12_wordHere 59 = .ok (.ifCond .eq 6, 3) := by decide +kernel
theorem dX12_wordHere_62 : decode cX12_wordHere 62 = .ok (.bipush 109, 2) := by decide +kernel
theorem dX12_wordHere_64 : decode cX12_wordHere 64 = .ok (.ireturn, 1) := by decide +kernel
theorem dX12_wordHere_65 : decode cX12_wordHere 65 = .ok (.aload_n 0, 1) := by decide +kernel
theorem dX12_wordHere_66 : decode cX12_wordHere 66 = .ok (.ldc2_w 219, 3) := by decide +kernel
theorem dX12_wordHere_69 : decode cX12_wordHere 69 = .ok (.invokevirtual 275, 3) := by decide +kernel
theorem dX12_wordHere_72 : decode cX12_wordHere 72 = .ok (.ifCond .eq 8, 3) := by decide +kernel
theorem dX12_wordHere_75 : decode cX12_wordHere 75 = .ok (.bipush 108, 2) := by decide +kernel
theorem dX12_wordHere_77 : decode cX12_wordHere 77 = .ok (.goto 4, 3) := by decide +kernel
theorem dX12_wordHere_80 : decode cX12_wordHere 80 = .ok (.iconst 0, 1) := by decide +kernel
theorem dX12_wordHere_81 : decode cX12_wordHere 81 = .ok (.ireturn, 1) := by decide +kernel
theorem dX12_unit_0 : decode cX12_unit 0 = .ok (.aload_n 0, 1) := by decide +kernel
theorem dX12_unit_1 : decode cX12_unit 1 = .ok (.getfield 101, 3) := by decide +kernel
theorem dX12_unit_4 : decode cX12_unit 4 = .ok (.aload_n 0, 1) := by decide +kernel
theorem dX12_unit_5 : decode cX12_unit 5 = .ok (.getfield 348, 3) := by decide +kernel
theorem dX12_unit_8 : decode cX12_unit 8 = .ok (.iconst 1, 1) := by decide +kernel
theorem dX12_unit_9 : decode cX12_unit 9 = .ok (.isub, 1) := by decide +kernel
theorem dX12_unit_10 : decode cX12_unit 10 = .ok (.iaload, 1) := by decide +kernel
theorem dX12_unit_11 : decode cX12_unit 11 = .ok (.iconst 3, 1) := by decide +kernel
theorem dX12_unit_12 : decode cX12_unit 12 = .ok (.if_icmp .le 19, 3) := by decide +kernel
theorem dX12_unit_15 : decode cX12_unit 15 = .ok (.aload_n 0, 1) := by decide +kernel
theorem dX12_unit_16 : decode cX12_unit 16 = .ok (.getfield 101, 3) := by decide +kernel
theorem dX12_unit_19 : decode cX12_unit 19 = .ok (.aload_n 0, 1) := by decide +kernel
theorem dX12_unit_20 : decode cX12_unit 20 = .ok (.getfield 348, 3) := by decide +kernel
theorem dX12_unit_23 : decode cX12_unit 23 = .ok (.iconst 1, 1) := by decide +kernel
theorem dX12_unit_24 : decode cX12_unit 24 = .ok (.isub, 1) := by decide +kernel
theorem dX12_unit_25 : decode cX12_unit 25 = .ok (.iaload, 1) := by decide +kernel
theorem dX12_unit_26 : decode cX12_unit 26 = .ok (.bipush 7, 2) := by decide +kernel
theorem dX12_unit_28 : decode cX12_unit 28 = .ok (.if_icmp .lt 7, 3) := by decide +kernel
theorem dX12_unit_31 : decode cX12_unit 31 = .ok (.iconst 1, 1) := by decide +kernel
theorem dX12_unit_32 : decode cX12_unit 32 = .ok (.goto 4, 3) := by decide +kernel
theorem dX12_unit_35 : decode cX12_unit 35 = .ok (.iconst 0, 1) := by decide +kernel
theorem dX12_unit_36 : decode cX12_unit 36 = .ok (.istore_n 1, 1) := by decide +kernel
theorem dX12_unit_37 : decode cX12_unit 37 = .ok (.iload_n 1, 1) := by decide +kernel
theorem dX12_unit_38 : decode cX12_unit 38 = .ok (.ifCond .eq 17, 3) := by decide +kernel
theorem dX12_unit_41 : decode cX12_unit 41 = .ok (.aload_n 0, 1) := by decide +kernel
theorem dX12_unit_42 : decode cX12_unit 42 = .ok (.ldc2_w 225, 3) := by decide +kernel
theorem dX12_unit_45 : decode cX12_unit 45 = .ok (.invokevirtual 275, 3) := by decide +kernel
theorem dX12_unit_48 : decode cX12_unit 48 = .ok (.ifCond .eq 7, 3) := by decide +kernel
theorem dX12_unit_51 : decode cX12_unit 51 = .ok (.iconst 1, 1) := by decide +kernel
theorem dX12_unit_52 : decode cX12_unit 52 = .ok (.goto 4, 3) := by decide +kernel
theorem dX12_unit_55 : decode cX12_unit 55 = .ok (.iconst 0, 1) := by decide +kernel
theorem dX12_unit_56 : decode cX12_unit 56 = .ok (.istore_n 2, 1) := by decide +kernel
theorem dX12_unit_57 : decode cX12_unit 57 = .ok (.aload_n 0, 1) := by decide +kernel
theorem dX12_unit_58 : decode cX12_unit 58 = .ok (.bipush 40, 2) := by decide +kernel
theorem dX12_unit_60 : decode cX12_unit 60 = .ok (.invokevirtual 320, 3) := by decide +kernel
theorem dX12_unit_63 : decode cX12_unit 63 = .ok (.istore_n 3, 1) := by decide +kernel
theorem dX12_unit_64 : decode cX12_unit 64 = .ok (.aload_n 0, 1) := by decide +kernel
theorem dX12_unit_65 : decode cX12_unit 65 = .ok (.invokevirtual 363, 3) := by decide +kernel
theorem dX12_unit_68 : decode cX12_unit 68 = .ok (.istore 4, 2) := by decide +kernel
theorem dX12_unit_70 : decode cX12_unit 70 = .ok (.aload_n 0, 1) := by decide +kernel
theorem dX12_unit_71 : decode cX12_unit 71 = .ok (.getfield 33, 3) := by decide +kernel
theorem dX12_unit_74 : decode cX12_unit 74 = .ok (.aload_n 0, 1) := by decide +kernel
theorem dX12_unit_75 : decode cX12_unit 75 = .ok (.getfield 286, 3) := by decide +kernel
theorem dX12_unit_78 : decode cX12_unit 78 = .ok (.iaload, 1) := by decide +kernel
theorem dX12_unit_79 : decode cX12_unit 79 = .ok (.bipush 60, 2) := by decide +kernel
theorem dX12_unit_81 : decode cX12_unit 81 = .ok (.if_icmp .eq 12, 3) := by decide +kernel
theorem dX12_unit_84 : decode cX12_unit 84 = .ok (.aload_n 0, 1) := by decide +kernel
theorem dX12_unit_85 : decode cX12_unit 85 = .ok (.getfield 342, 3) := by decide +kernel
theorem dX12_unit_88 : decode cX12_unit 88 = .ok (.bipush 30, 2) := by decide +kernel
theorem dX12_unit_90 : decode cX12_unit 90 = .ok (.if_icmp .ne 7, 3) := by decide +kernel
theorem dX12_unit_93 : decode cX12_unit 93 = .ok (.iconst 1, 1) := by decide +kernel
theorem dX12_unit_94 : decode cX12_unit 94 = .ok (.goto 4, 3) := by decide +kernel
theorem dX12_unit_97 : decode cX12_unit 97 = .ok (.iconst 0, 1) := by decide +kernel
theorem dX12_unit_98 : decode cX12_unit 98 = .ok (.istore 5, 2) := by decide +kernel
theorem dX12_unit_100 : decode cX12_unit 100 = .ok (.iload_n 2, 1) := by decide +kernel
theorem dX12_unit_101 : decode cX12_unit 101 = .ok (.ifCond .ne 25, 3) := by decide +kernel
theorem dX12_unit_104 : decode cX12_unit 104 = .ok (.iload 4, 2) := by decide +kernel
theorem dX12_unit_106 : decode cX12_unit 106 = .ok (.ifCond .ne 15, 3) := by decide +kernel
theorem dX12_unit_109 : decode cX12_unit 109 = .ok (.aload_n 0, 1) := by decide +kernel
theorem dX12_unit_110 : decode cX12_unit 110 = .ok (.getfield 237, 3) := by decide +kernel
theorem dX12_unit_113 : decode cX12_unit 113 = .ok (.iconst 4, 1) := by decide +kernel
theorem dX12_unit_114 : decode cX12_unit 114 = .ok (.if_icmp .eq 7, 3) := by decide +kernel
theorem dX12_unit_117 : decode cX12_unit 117 = .ok (.iload_n 3, 1) := by decide +kernel
theorem dX12_unit_118 : decode cX12_unit 118 = .ok (.ifCond .eq 25, 3) := by decide +kernel
theorem dX12_unit_121 : decode cX12_unit 121 = .ok (.iload 5, 2) := by decide +kernel
theorem dX12_unit_123 : decode cX12_unit 123 = .ok (.ifCond .ne 20, 3) := by decide +kernel
theorem dX12_unit_126 : decode cX12_unit 126 = .ok (.iload_n 2, 1) := by decide +kernel
theorem dX12_unit_127 : decode cX12_unit 127 = .ok (.ifCond .ne 7, 3) := by decide +kernel
theorem dX12_unit_130 : decode cX12_unit 130 = .ok (.iload_n 3, 1) := by decide +kernel
theorem dX12_unit_131 : decode cX12_unit 131 = .ok (.ifCond .eq 16, 3) := by decide +kernel
theorem dX12_unit_134 : decode cX12_unit 134 = .ok (.aload_n 0, 1) := by decide +kernel
theorem dX12_unit_135 : decode cX12_unit 135 = .ok (.getfield 351, 3) := by decide +kernel
theorem dX12_unit_138 : decode cX12_unit 138 = .ok (.bipush 7, 2) := by decide +kernel
theorem dX12_unit_140 : decode cX12_unit 140 = .ok (.if_icmp .ne 7, 3) := by decide +kernel
theorem dX12_unit_143 : decode cX12_unit 143 = .ok (.aload_n 0, 1) := by decide +kernel
theorem dX12_unit_144 : decode cX12_unit 144 = .ok (.invokevirtual 272, 3) := by decide +kernel
theorem dX12_unit_147 : decode cX12_unit 147 = .ok (.aload_n 0, 1) := by decide +kernel
theorem dX12_unit_148 : decode cX12_unit 148 = .ok (.invokevirtual 265, 3) := by decide +kernel
theorem dX12_unit_151 : decode cX12_unit 151 = .ok (.ifCond .ne 5, 3) := by decide +kernel
theorem dX12_unit_154 : decode cX12_unit 154 = .ok (.iconst 1, 1) := by decide +kernel
theorem dX12_unit_155 : decode cX12_unit 155 = .ok (.ireturn, 1) := by decide +kernel
theorem dX12_unit_156 : decode cX12_unit 156 = .ok (.aload_n 0, 1) := by decide +kernel
theorem dX12_unit_157 : decode cX12_unit 157 = .ok (.getfield 33, 3) := by decide +kernel
theorem dX12_unit_160 : decode cX12_unit 160 = .ok (.aload_n 0, 1) := by decide +kernel
theorem dX12_unit_161 : decode cX12_unit 161 = .ok (.getfield 286, 3) := by decide +kernel
theorem dX12_unit_164 : decode cX12_unit 164 = .ok (.dup2, 1) := by decide +kernel
theorem dX12_unit_165 : decode cX12_unit 165 = .ok (.iaload, 1) := by decide +kernel
theorem dX12_unit_166 : decode cX12_unit 166 = .ok (.iload_n 2, 1) := by decide +kernel
theorem dX12_unit_167 : decode cX12_unit 167 = .ok (.ifCond .eq 7, 3) := by decide +kernel
theorem dX12_unit_170 : decode cX12_unit 170 = .ok (.iconst 0, 1) := by decide +kernel
theorem dX12_unit_171 : decode cX12_unit 171 = .ok (.goto 4, 3) := by decide +kernel
theorem dX12_unit_174 : decode cX12_unit 174 = .ok (.iconst 1, 1) := by decide +kernel
theorem dX12_unit_175 : decode cX12_unit 175 = .ok (.iadd, 1) := by decide +kernel
theorem dX12_unit_176 : decode cX12_unit 176 = .ok (.iastore, 1) := by decide +kernel
theorem dX12_unit_177 : decode cX12_unit 177 = .ok (.aload_n 0, 1) := by decide +kernel
theorem dX12_unit_178 : decode cX12_unit 178 = .ok (.dup, 1) := by decide +kernel
theorem dX12_unit_179 : decode cX12_unit 179 = .ok (.getfield 342, 3) := by decide +kernel
theorem dX12_unit_182 : decode cX12_unit 182 = .ok (.iload_n 2, 1) := by decide +kernel
theorem dX12_unit_183 : decode cX12_unit 183 = .ok (.ifCond .eq 7, 3) := by decide +kernel
theorem dX12_unit_186 : decode cX12_unit 186 = .ok (.iconst 0, 1) := by decide +kernel
theorem dX12_unit_187 : decode cX12_unit 187 = .ok (.goto 4, 3) := by decide +kernel
theorem dX12_unit_190 : decode cX12_unit 190 = .ok (.iconst 1, 1) := by decide +kernel
theorem dX12_unit_191 : decode cX12_unit 191 = .ok (.iadd, 1) := by decide +kernel
theorem dX12_unit_192 : decode cX12_unit 192 = .ok (.putfield 342, 3) := by decide +kernel
theorem dX12_unit_195 : decode cX12_unit 195 = .ok (.iload 4, 2) := by decide +kernel
theorem dX12_unit_197 : decode cX12_unit 197 = .ok (.ifCond .ne 10, 3) := by decide +kernel
theorem dX12_unit_200 : decode cX12_unit 200 = .ok (.aload_n 0, 1) := by decide +kernel
theorem dX12_unit_201 : decode cX12_unit 201 = .ok (.getfield 255, 3) := by decide +kernel
theorem dX12_unit_204 : decode cX12_unit 204 = .ok (.goto 4, 3) := by decide +kernel
theorem dX12_unit_207 : decode cX12_unit 207 = .ok (.iconst 0, 1) := by decide +kernel
theorem dX12_unit_208 : decode cX12_unit 208 = .ok (.istore 6, 2) := by decide +kernel
theorem dX12_unit_210 : decode cX12_unit 210 = .ok (.aload_n 0, 1) := by decide +kernel
theorem dX12_unit_211 : decode cX12_unit 211 = .ok (.invokevirtual 269, 3) := by decide +kernel
theorem dX12_unit_214 : decode cX12_unit 214 = .ok (.iload_n 2, 1) := by decide +kernel
theorem dX12_unit_215 : decode cX12_unit 215 = .ok (.ifCond .ne 7, 3) := by decide +kernel
theorem dX12_unit_218 : decode cX12_unit 218 = .ok (.iload_n 3, 1) := by decide +kernel
theorem dX12_unit_219 : decode cX12_unit 219 = .ok (.ifCond .eq 31, 3) := by decide +kernel
theorem dX12_unit_222 : decode cX12_unit 222 = .ok (.aload_n 0, 1) := by decide +kernel
theorem dX12_unit_223 : decode cX12_unit 223 = .ok (.iload_n 2, 1) := by decide +kernel
theorem dX12_unit_224 : decode cX12_unit 224 = .ok (.ifCond .eq 7, 3) := by decide +kernel
theorem dX12_unit_227 : decode cX12_unit 227 = .ok (.iconst 3, 1) := by decide +kernel
theorem dX12_unit_228 : decode cX12_unit 228 = .ok (.goto 5, 3) := by decide +kernel
theorem dX12_unit_231 : decode cX12_unit 231 = .ok (.bipush 7, 2) := by decide +kernel
theorem dX12_unit_233 : decode cX12_unit 233 = .ok (.bipush 126, 2) := by decide +kernel
theorem dX12_unit_235 : decode cX12_unit 235 = .ok (.invokevirtual 354, 3) := by decide +kernel
theorem dX12_unit_238 : decode cX12_unit 238 = .ok (.aload_n 0, 1) := by decide +kernel
theorem dX12_unit_239 : decode cX12_unit 239 = .ok (.dup, 1) := by decide +kernel
theorem dX12_unit_240 : decode cX12_unit 240 = .ok (.getfield 351, 3) := by decide +kernel
theorem dX12_unit_243 : decode cX12_unit 243 = .ok (.iconst 1, 1) := by decide +kernel
theorem dX12_unit_244 : decode cX12_unit 244 = .ok (.iadd, 1) := by decide +kernel
theorem dX12_unit_245 : decode cX12_unit 245 = .ok (.putfield 351, 3) := by decide +kernel
theorem dX12_unit_248 : decode cX12_unit 248 = .ok (.iconst 1, 1) := by decide +kernel
theorem dX12_unit_249 : decode cX12_unit 249 = .ok (.ireturn, 1) := by decide +kernel
theorem dX12_unit_250 : decode cX12_unit 250 = .ok (.aload_n 0, 1) := by decide +kernel
theorem dX12_unit_251 : decode cX12_unit 251 = .ok (.iload 4, 2) := by decide +kernel
theorem dX12_unit_253 : decode cX12_unit 253 = .ok (.ifCond .ne 8, 3) := by decide +kernel
theorem dX12_unit_256 : decode cX12_unit 256 = .ok (.bipush 110, 2) := by decide +kernel
theorem dX12_unit_258 : decode cX12_unit 258 = .ok (.goto 5, 3) := by decide +kernel
theorem dX12_unit_261 : decode cX12_unit 261 = .ok (.iload 4, 2) := by decide +kernel
theorem dX12_unit_263 : decode cX12_unit 263 = .ok (.iload 6, 2) := by decide +kernel
theorem dX12_unit_265 : decode cX12_unit 265 = .ok (.invokevirtual 366, 3) := by decide +kernel
theorem dX12_unit_268 : decode cX12_unit 268 = .ok (.iconst 0, 1) := by decide +kernel
theorem dX12_unit_269 : decode cX12_unit 269 = .ok (.ireturn, 1) := by decide +kernel
theorem dX12_rankHere_0 : decode cX12_rankHere 0 = .ok (.aload_n 0, 1) := by decide +kernel
theorem dX12_rankHere_1 : decode cX12_rankHere 1 = .ok (.ldc2_w 223, 3) := by decide +kernel
theorem dX12_rankHere_4 : decode cX12_rankHere 4 = .ok (.invokevirtual 275, 3) := by decide +kernel
theorem dX12_rankHere_7 : decode cX12_rankHere 7 = .ok (.ifCond .eq 5, 3) := by decide +kernel
theorem dX12_rankHere_10 : decode cX12_rankHere 10 = .ok (.iconst 2, 1) := by decide +kernel
theorem dX12_rankHere_11 : decode cX12_rankHere 11 = .ok (.ireturn, 1) := by decide +kernel
theorem dX12_rankHere_12 : decode cX12_rankHere 12 = .ok (.aload_n 0, 1) := by decide +kernel
theorem dX12_rankHere_13 : decode cX12_rankHere 13 = .ok (.ldc2_w 221, 3) := by decide +kernel
theorem dX12_rankHere_16 : decode cX12_rankHere 16 = .ok (.invokevirtual 275, 3) := by decide +kernel
theorem dX12_rankHere_19 : decode cX12_rankHere 19 = .ok (.ifCond .eq 5, 3) := by decide +kernel
theorem dX12_rankHere_22 : decode cX12_rankHere 22 = .ok (.iconst 1, 1) := by decide +kernel
theorem dX12_rankHere_23 : decode cX12_rankHere 23 = .ok (.ireturn, 1) := by decide +kernel
theorem dX12_rankHere_24 : decode cX12_rankHere 24 = .ok (.aload_n 0, 1) := by decide +kernel
theorem dX12_rankHere_25 : decode cX12_rankHere 25 = .ok (.bipush 60, 2) := by decide +kernel
theorem dX12_rankHere_27 : decode cX12_rankHere 27 = .ok (.invokevirtual 320, 3) := by decide +kernel
theorem dX12_rankHere_30 : decode cX12_rankHere 30 = .ok (.ifCond .ne 21, 3) := by decide +kernel
theorem dX12_rankHere_33 : decode cX12_rankHere 33 = .ok (.aload_n 0, 1) := by decide +kernel
theorem dX12_rankHere_34 : decode cX12_rankHere 34 = .ok (.bipush 62, 2) := by decide +kernel
theorem dX12_rankHere_36 : decode cX12_rankHere 36 = .ok (.invokevirtual 320, 3) := by decide +kernel
theorem dX12_rankHere_39 : decode cX12_rankHere 39 = .ok (.ifCond .ne 12, 3) := by decide +kernel
theorem dX12_rankHere_42 : decode cX12_rankHere 42 = .ok (.aload_n 0, 1) := by decide +kernel
theorem dX12_rankHere_43 : decode cX12_rankHere 43 = .ok (.bipush 61, 2) := by decide +kernel
theorem dX12_rankHere_45 : decode cX12_rankHere 45 = .ok (.invokevirtual 320, 3) := by decide +kernel
theorem dX12_rankHere_48 : decode cX12_rankHere 48 = .ok (.ifCond .eq 5, 3) := by decide +kernel
theorem dX12_rankHere_51 : decode cX12_rankHere 51 = .ok (.iconst 4, 1) := by decide +kernel
theorem dX12_rankHere_52 : decode cX12_rankHere 52 = .ok (.ireturn, 1) := by decide +kernel
theorem dX12_rankHere_53 : decode cX12_rankHere 53 = .ok (.aload_n 0, 1) := by decide +kernel
theorem dX12_rankHere_54 : decode cX12_rankHere 54 = .ok (.bipush 43, 2) := by decide +kernel
theorem dX12_rankHere_56 : decode cX12_rankHere 56 = .ok (.invokevirtual 320, 3) := by decide +kernel
theorem dX12_rankHere_59 : decode cX12_rankHere 59 = .ok (.ifCond .ne 12, 3) := by decide +kernel
theorem dX12_rankHere_62 : decode cX12_rankHere 62 = .ok (.aload_n 0, 1) := by decide +kernel
theorem dX12_rankHere_63 : decode cX12_rankHere 63 = .ok (.bipush 45, 2) := by decide +kernel
theorem dX12_rankHere_65 : decode cX12_rankHere 65 = .ok (.invokevirtual 320, 3) := by decide +kernel
theorem dX12_rankHere_68 : decode cX12_rankHere 68 = .ok (.ifCond .eq 5, 3) := by decide +kernel
theorem dX12_rankHere_71 : decode cX12_rankHere 71 = .ok (.iconst 5, 1) := by decide +kernel
theorem dX12_rankHere_72 : decode cX12_rankHere 72 = .ok (.ireturn, 1) := by decide +kernel
theorem dX12_rankHere_73 : decode cX12_rankHere 73 = .ok (.aload_n 0, 1) := by decide +kernel
theorem dX12_rankHere_74 : decode cX12_rankHere 74 = .ok (.bipush 42, 2) := by decide +kernel
theorem dX12_rankHere_76 : decode cX12_rankHere 76 = .ok (.invokevirtual 320, 3) := by decide +kernel
theorem dX12_rankHere_79 : decode cX12_rankHere 79 = .ok (.ifCond .ne 21, 3) := by decide +kernel
theorem dX12_rankHere_82 : decode cX12_rankHere 82 = .ok (.aload_n 0, 1) := by decide +kernel
theorem dX12_rankHere_83 : decode cX12_rankHere 83 = .ok (.bipush 47, 2) := by decide +kernel
theorem dX12_rankHere_85 : decode cX12_rankHere 85 = .ok (.invokevirtual 320, 3) := by decide +kernel
theorem dX12_rankHere_88 : decode cX12_rankHere 88 = .ok (.ifCond .ne 12, 3) := by decide +kernel
theorem dX12_rankHere_91 : decode cX12_rankHere 91 = .ok (.aload_n 0, 1) := by decide +kernel
theorem dX12_rankHere_92 : decode cX12_rankHere 92 = .ok (.bipush 37, 2) := by decide +kernel
theorem dX12_rankHere_94 : decode cX12_rankHere 94 = .ok (.invokevirtual 320, 3) := by decide +kernel
theorem dX12_rankHere_97 : decode cX12_rankHere 97 = .ok (.ifCond .eq 8, 3) := by decide +kernel
theorem dX12_rankHere_100 : decode cX12_rankHere 100 = .ok (.bipush 6, 2) := by decide +kernel
theorem dX12_rankHere_102 : decode cX12_rankHere 102 = .ok (.goto 4, 3) := by decide +kernel
theorem dX12_rankHere_105 : decode cX12_rankHere 105 = .ok (.iconst 0, 1) := by decide +kernel
theorem dX12_rankHere_106 : decode cX12_rankHere 106 = .ok (.ireturn, 1) := by decide +kernel
theorem dX12_isCompared_0 : decode cX12_isCompared 0 = .ok (.aload_n 0, 1) := by decide +kernel
theorem dX12_isCompared_1 : decode cX12_isCompared 1 = .ok (.getfield 348, 3) := by decide +kernel
theorem dX12_isCompared_4 : decode cX12_isCompared 4 = .ok (.iconst 1, 1) := by decide +kernel
theorem dX12_isCompared_5 : decode cX12_isCompared 5 = .ok (.isub, 1) := by decide +kernel
theorem dX12_isCompared_6 : decode cX12_isCompared 6 = .ok (.istore_n 1, 1) := by decide +kernel
theorem dX12_isCompared_7 : decode cX12_isCompared 7 = .ok (.aload_n 0, 1) := by decide +kernel
theorem dX12_isCompared_8 : decode cX12_isCompared 8 = .ok (.getfield 101, 3) := by decide +kernel
theorem dX12_isCompared_11 : decode cX12_isCompared 11 = .ok (.iload_n 1, 1) := by decide +kernel
theorem dX12_isCompared_12 : decode cX12_isCompared 12 = .ok (.iaload, 1) := by decide +kernel
theorem dX12_isCompared_13 : decode cX12_isCompared 13 = .ok (.iconst 5, 1) := by decide +kernel
theorem dX12_isCompared_14 : decode cX12_isCompared 14 = .ok (.if_icmp .eq 14, 3) := by decide +kernel
theorem dX12_isCompared_17 : decode cX12_isCompared 17 = .ok (.aload_n 0, 1) := by decide +kernel
theorem dX12_isCompared_18 : decode cX12_isCompared 18 = .ok (.getfield 101, 3) := by decide +kernel
theorem dX12_isCompared_21 : decode cX12_isCompared 21 = .ok (.iload_n 1, 1) := by decide +kernel
theorem dX12_isCompared_22 : decode cX12_isCompared 22 = .ok (.iaload, 1) := by decide +kernel
theorem dX12_isCompared_23 : decode cX12_isCompared 23 = .ok (.bipush 6, 2) := by decide +kernel
theorem dX12_isCompared_25 : decode cX12_isCompared 25 = .ok (.if_icmp .ne 9, 3) := by decide +kernel
theorem dX12_isCompared_28 : decode cX12_isCompared 28 = .ok (.iinc 1 (-1), 3) := by decide +kernel
theorem dX12_isCompared_31 : decode cX12_isCompared 31 = .ok (.goto (-24), 3) := by decide +kernel
theorem dX12_isCompared_34 : decode cX12_isCompared 34 = .ok (.aload_n 0, 1) := by decide +kernel
theorem dX12_isCompared_35 : decode cX12_isCompared 35 = .ok (.getfield 101, 3) := by decide +kernel
theorem dX12_isCompared_38 : decode cX12_isCompared 38 = .ok (.iload_n 1, 1) := by decide +kernel
theorem dX12_isCompared_39 : decode cX12_isCompared 39 = .ok (.iaload, 1) := by decide +kernel
theorem dX12_isCompared_40 : decode cX12_isCompared 40 = .ok (.iconst 4, 1) := by decide +kernel
theorem dX12_isCompared_41 : decode cX12_isCompared 41 = .ok (.if_icmp .ne 7, 3) := by decide +kernel
theorem dX12_isCompared_44 : decode cX12_isCompared 44 = .ok (.iconst 1, 1) := by decide +kernel
theorem dX12_isCompared_45 : decode cX12_isCompared 45 = .ok (.goto 4, 3) := by decide +kernel
theorem dX12_isCompared_48 : decode cX12_isCompared 48 = .ok (.iconst 0, 1) := by decide +kernel
theorem dX12_isCompared_49 : decode cX12_isCompared 49 = .ok (.ireturn, 1) := by decide +kernel
theorem dX12_behindUnit_0 : decode cX12_behindUnit 0 = .ok (.aload_n 0, 1) := by decide +kernel
theorem dX12_behindUnit_1 : decode cX12_behindUnit 1 = .ok (.invokevirtual 369, 3) := by decide +kernel
theorem dX12_behindUnit_4 : decode cX12_behindUnit 4 = .ok (.istore_n 1, 1) := by decide +kernel
theorem dX12_behindUnit_5 : decode cX12_behindUnit 5 = .ok (.iload_n 1, 1) := by decide +kernel
theorem dX12_behindUnit_6 : decode cX12_behindUnit 6 = .ok (.iconst 4, 1) := by decide +kernel
theorem dX12_behindUnit_7 : decode cX12_behindUnit 7 = .ok (.if_icmp .ne 16, 3) := by decide +kernel
theorem dX12_behindUnit_10 : decode cX12_behindUnit 10 = .ok (.aload_n 0, 1) := by decide +kernel
theorem dX12_behindUnit_11 : decode cX12_behindUnit 11 = .ok (.invokevirtual 372, 3) := by decide +kernel
theorem dX12_behindUnit_14 : decode cX12_behindUnit 14 = .ok (.ifCond .eq 9, 3) := by decide +kernel
theorem dX12_behindUnit_17 : decode cX12_behindUnit 17 = .ok (.aload_n 0, 1) := by decide +kernel
theorem dX12_behindUnit_18 : decode cX12_behindUnit 18 = .ok (.invokevirtual 272, 3) := by decide +kernel
theorem dX12_behindUnit_21 : decode cX12_behindUnit 21 = .ok (.iconst 1, 1) := by decide +kernel
theorem dX12_behindUnit_22 : decode cX12_behindUnit 22 = .ok (.ireturn, 1) := by decide +kernel
theorem dX12_behindUnit_23 : decode cX12_behindUnit 23 = .ok (.aload_n 0, 1) := by decide +kernel
theorem dX12_behindUnit_24 : decode cX12_behindUnit 24 = .ok (.getfield 101, 3) := by decide +kernel
theorem dX12_behindUnit_27 : decode cX12_behindUnit 27 = .ok (.aload_n 0, 1) := by decide +kernel
theorem dX12_behindUnit_28 : decode cX12_behindUnit 28 = .ok (.getfield 348, 3) := by decide +kernel
theorem dX12_behindUnit_31 : decode cX12_behindUnit 31 = .ok (.iconst 1, 1) := by decide +kernel
theorem dX12_behindUnit_32 : decode cX12_behindUnit 32 = .ok (.isub, 1) := by decide +kernel
theorem dX12_behindUnit_33 : decode cX12_behindUnit 33 = .ok (.iaload, 1) := by decide +kernel
theorem dX12_behindUnit_34 : decode cX12_behindUnit 34 = .ok (.bipush 6, 2) := by decide +kernel
theorem dX12_behindUnit_36 : decode cX12_behindUnit 36 = .ok (.if_icmp .gt 68, 3) := by decide +kernel
theorem dX12_behindUnit_39 : decode cX12_behindUnit 39 = .ok (.aload_n 0, 1) := by decide +kernel
theorem dX12_behindUnit_40 : decode cX12_behindUnit 40 = .ok (.getfield 101, 3) := by decide +kernel
theorem dX12_behindUnit_43 : decode cX12_behindUnit 43 = .ok (.aload_n 0, 1) := by decide +kernel
theorem dX12_behindUnit_44 : decode cX12_behindUnit 44 = .ok (.getfield 348, 3) := by decide +kernel
theorem dX12_behindUnit_47 : decode cX12_behindUnit 47 = .ok (.iconst 1, 1) := by decide +kernel
theorem dX12_behindUnit_48 : decode cX12_behindUnit 48 = .ok (.isub, 1) := by decide +kernel
theorem dX12_behindUnit_49 : decode cX12_behindUnit 49 = .ok (.iaload, 1) := by decide +kernel
theorem dX12_behindUnit_50 : decode cX12_behindUnit 50 = .ok (.iload_n 1, 1) := by decide +kernel
theorem dX12_behindUnit_51 : decode cX12_behindUnit 51 = .ok (.if_icmp .lt 53, 3) := by decide +kernel
theorem dX12_behindUnit_54 : decode cX12_behindUnit 54 = .ok (.aload_n 0, 1) := by decide +kernel
theorem dX12_behindUnit_55 : decode cX12_behindUnit 55 = .ok (.dup, 1) := by decide +kernel
theorem dX12_behindUnit_56 : decode cX12_behindUnit 56 = .ok (.getfield 348, 3) := by decide +kernel
theorem dX12_behindUnit_59 : decode cX12_behindUnit 59 = .ok (.iconst 1, 1) := by decide +kernel
theorem dX12_behindUnit_60 : decode cX12_behindUnit 60 = .ok (.isub, 1) := by decide +kernel
theorem dX12_behindUnit_61 : decode cX12_behindUnit 61 = .ok (.putfield 348, 3) := by decide +kernel
theorem dX12_behindUnit_64 : decode cX12_behindUnit 64 = .ok (.aload_n 0, 1) := by decide +kernel
theorem dX12_behindUnit_65 : decode cX12_behindUnit 65 = .ok (.getfield 101, 3) := by decide +kernel
theorem dX12_behindUnit_68 : decode cX12_behindUnit 68 = .ok (.aload_n 0, 1) := by decide +kernel
theorem dX12_behindUnit_69 : decode cX12_behindUnit 69 = .ok (.getfield 348, 3) := by decide +kernel
theorem dX12_behindUnit_72 : decode cX12_behindUnit 72 = .ok (.iaload, 1) := by decide +kernel
theorem dX12_behindUnit_73 : decode cX12_behindUnit 73 = .ok (.iconst 3, 1) := by decide +kernel
theorem dX12_behindUnit_74 : decode cX12_behindUnit 74 = .ok (.if_icmp .ne 13, 3) := by decide +kernel
theorem dX12_behindUnit_77 : decode cX12_behindUnit 77 = .ok (.aload_n 0, 1) := by decide +kernel
theorem dX12_behindUnit_78 : decode cX12_behindUnit 78 = .ok (.dup, 1) := by decide +kernel
theorem dX12_behindUnit_79 : decode cX12_behindUnit 79 = .ok (.getfield 351, 3) := by decide +kernel
theorem dX12_behindUnit_82 : decode cX12_behindUnit 82 = .ok (.iconst 1, 1) := by decide +kernel
theorem dX12_behindUnit_83 : decode cX12_behindUnit 83 = .ok (.isub, 1) := by decide +kernel
theorem dX12_behindUnit_84 : decode cX12_behindUnit 84 = .ok (.putfield 351, 3) := by decide +kernel
theorem dX12_behindUnit_87 : decode cX12_behindUnit 87 = .ok (.aload_n 0, 1) := by decide +kernel
theorem dX12_behindUnit_88 : decode cX12_behindUnit 88 = .ok (.aload_n 0, 1) := by decide +kernel
theorem dX12_behindUnit_89 : decode cX12_behindUnit 89 = .ok (.getfield 104, 3) := by decide +kernel
theorem dX12_behindUnit_92 : decode cX12_behindUnit 92 = .ok (.aload_n 0, 1) := by decide +kernel
theorem dX12_behindUnit_93 : decode cX12_behindUnit 93 = .ok (.getfield 348, 3) := by decide +kernel
theorem dX12_behindUnit_96 : decode cX12_behindUnit 96 = .ok (.iaload, 1) := by decide +kernel
theorem dX12_behindUnit_97 : decode cX12_behindUnit 97 = .ok (.iconst 0, 1) := by decide +kernel
theorem dX12_behindUnit_98 : decode cX12_behindUnit 98 = .ok (.invokevirtual 366, 3) := by decide +kernel
theorem dX12_behindUnit_101 : decode cX12_behindUnit 101 = .ok (.goto (-78), 3) := by decide +kernel
theorem dX12_behindUnit_104 : decode cX12_behindUnit 104 = .ok (.iload_n 1, 1) := by decide +kernel
theorem dX12_behindUnit_105 : decode cX12_behindUnit 105 = .ok (.ifCond .le 42, 3) := by decide +kernel
theorem dX12_behindUnit_108 : decode cX12_behindUnit 108 = .ok (.aload_n 0, 1) := by decide +kernel
theorem dX12_behindUnit_109 : decode cX12_behindUnit 109 = .ok (.iload_n 1, 1) := by decide +kernel
theorem dX12_behindUnit_110 : decode cX12_behindUnit 110 = .ok (.iload_n 1, 1) := by decide +kernel
theorem dX12_behindUnit_111 : decode cX12_behindUnit 111 = .ok (.iconst 2, 1) := by decide +kernel
theorem dX12_behindUnit_112 : decode cX12_behindUnit 112 = .ok (.if_icmp .ne 8, 3) := by decide +kernel
theorem dX12_behindUnit_115 : decode cX12_behindUnit 115 = .ok (.bipush 38, 2) := by decide +kernel
theorem dX12_behindUnit_117 : decode cX12_behindUnit 117 = .ok (.goto 21, 3) := by decide +kernel
theorem dX12_behindUnit_120 : decode cX12_behindUnit 120 = .ok (.iload_n 1, 1) := by decide +kernel
theorem dX12_behindUnit_121 : decode cX12_behindUnit 121 = .ok (.iconst 1, 1) := by decide +kernel
theorem dX12_behindUnit_122 : decode cX12_behindUnit 122 = .ok (.if_icmp .ne 8, 3) := by decide +kernel
theorem dX12_behindUnit_125 : decode cX12_behindUnit 125 = .ok (.bipush 124, 2) := by decide +kernel
theorem dX12_behindUnit_127 : decode cX12_behindUnit 127 = .ok (.goto 11, 3) := by decide +kernel
theorem dX12_behindUnit_130 : decode cX12_behindUnit 130 = .ok (.aload_n 0, 1) := by decide +kernel
theorem dX12_behindUnit_131 : decode cX12_behindUnit 131 = .ok (.aload_n 0, 1) := by decide +kernel
theorem dX12_behindUnit_132 : decode cX12_behindUnit 132 = .ok (.getfield 230, 3) := by decide +kernel
theorem dX12_behindUnit_135 : decode cX12_behindUnit 135 = .ok (.invokevirtual 233, 3) := by decide +kernel
theorem dX12_behindUnit_138 : decode cX12_behindUnit 138 = .ok (.invokevirtual 354, 3) := by decide +kernel
theorem dX12_behindUnit_141 : decode cX12_behindUnit 141 = .ok (.aload_n 0, 1) := by decide +kernel
theorem dX12_behindUnit_142 : decode cX12_behindUnit 142 = .ok (.invokevirtual 269, 3) := by decide +kernel
theorem dX12_behindUnit_145 : decode cX12_behindUnit 145 = .ok (.iconst 1, 1) := by decide +kernel
theorem dX12_behindUnit_146 : decode cX12_behindUnit 146 = .ok (.ireturn, 1) := by decide +kernel
theorem dX12_behindUnit_147 : decode cX12_behindUnit 147 = .ok (.aload_n 0, 1) := by decide +kernel
theorem dX12_behindUnit_148 : decode cX12_behindUnit 148 = .ok (.dup, 1) := by decide +kernel
theorem dX12_behindUnit_149 : decode cX12_behindUnit 149 = .ok (.getfield 348, 3) := by decide +kernel
theorem dX12_behindUnit_152 : decode cX12_behindUnit 152 = .ok (.iconst 1, 1) := by decide +kernel
theorem dX12_behindUnit_153 : decode cX12_behindUnit 153 = .ok (.isub, 1) := by decide +kernel
theorem dX12_behindUnit_154 : decode cX12_behindUnit 154 = .ok (.putfield 348, 3) := by decide +kernel
theorem dX12_behindUnit_157 : decode cX12_behindUnit 157 = .ok (.aload_n 0, 1) := by decide +kernel
theorem dX12_behindUnit_158 : decode cX12_behindUnit 158 = .ok (.getfield 101, 3) := by decide +kernel
theorem dX12_behindUnit_161 : decode cX12_behindUnit 161 = .ok (.aload_n 0, 1) := by decide +kernel
theorem dX12_behindUnit_162 : decode cX12_behindUnit 162 = .ok (.getfield 348, 3) := by decide +kernel
theorem dX12_behindUnit_165 : decode cX12_behindUnit 165 = .ok (.iaload, 1) := by decide +kernel
theorem dX12_behindUnit_166 : decode cX12_behindUnit 166 = .ok (.bipush 7, 2) := by decide +kernel
theorem dX12_behindUnit_168 : decode cX12_behindUnit 168 = .ok (.if_icmp .ne 23, 3) := by decide +kernel
theorem dX12_behindUnit_171 : decode cX12_behindUnit 171 = .ok (.aload_n 0, 1) := by decide +kernel
theorem dX12_behindUnit_172 : decode cX12_behindUnit 172 = .ok (.dup, 1) := by decide +kernel
theorem dX12_behindUnit_173 : decode cX12_behindUnit 173 = .ok (.getfield 351, 3) := by decide +kernel
theorem dX12_behindUnit_176 : decode cX12_behindUnit 176 = .ok (.iconst 1, 1) := by decide +kernel
theorem dX12_behindUnit_177 : decode cX12_behindUnit 177 = .ok (.isub, 1) := by decide +kernel
theorem dX12_behindUnit_178 : decode cX12_behindUnit 178 = .ok (.putfield 351, 3) := by decide +kernel
theorem dX12_behindUnit_181 : decode cX12_behindUnit 181 = .ok (.aload_n 0, 1) := by decide +kernel
theorem dX12_behindUnit_182 : decode cX12_behindUnit 182 = .ok (.aload_n 0, 1) := by decide +kernel
theorem dX12_behindUnit_183 : decode cX12_behindUnit 183 = .ok (.bipush 41, 2) := by decide +kernel
theorem dX12_behindUnit_185 : decode cX12_behindUnit 185 = .ok (.invokevirtual 320, 3) := by decide +kernel
theorem dX12_behindUnit_188 : decode cX12_behindUnit 188 = .ok (.invokevirtual 278, 3) := by decide +kernel
theorem dX12_behindUnit_191 : decode cX12_behindUnit 191 = .ok (.iconst 0, 1) := by decide +kernel
theorem dX12_behindUnit_192 : decode cX12_behindUnit 192 = .ok (.ireturn, 1) := by decide +kernel
theorem dX12_two_0 : decode cX12_two 0 = .ok (.iload_n 0, 1) := by decide +kernel
theorem dX12_two_1 : decode cX12_two 1 = .ok (.tableswitch 202 37 62 #[143, 188, 202, 202, 202, 127, 119, 202, 123, 202, 131, 202, 202, 202, 202, 202, 202, 202, 202, 202, 202, 202, 202, 155, 177, 166], 119) := by decide +kernel
theorem dX12_two_120 : decode cX12_two 120 = .ok (.iload_n 1, 1) := by decide +kernel
theorem dX12_two_121 : decode cX12_two 121 = .ok (.iload_n 2, 1) := by decide +kernel
theorem dX12_two_122 : decode cX12_two 122 = .ok (.iadd, 1) := by decide +kernel
theorem dX12_two_123 : decode cX12_two 123 = .ok (.ireturn, 1) := by decide +kernel
theorem dX12_two_124 : decode cX12_two 124 = .ok (.iload_n 1, 1) := by decide +kernel
theorem dX12_two_125 : decode cX12_two 125 = .ok (.iload_n 2, 1) := by decide +kernel
theorem dX12_two_126 : decode cX12_two 126 = .ok (.isub, 1) := by decide +kernel
theorem dX12_two_127 : decode cX12_two 127 = .ok (.ireturn, 1) := by decide +kernel
theorem dX12_two_128 : decode cX12_two 128 = .ok (.iload_n 1, 1) := by decide +kernel
theorem dX12_two_129 : decode cX12_two 129 = .ok (.iload_n 2, 1) := by decide +kernel
theorem dX12_two_130 : decode cX12_two 130 = .ok (.imul, 1) := by decide +kernel
theorem dX12_two_131 : decode cX12_two 131 = .ok (.ireturn, 1) := by decide +kernel
theorem dX12_two_132 : decode cX12_two 132 = .ok (.iload_n 2, 1) := by decide +kernel
theorem dX12_two_133 : decode cX12_two 133 = .ok (.ifCond .ne 7, 3) := by decide +kernel
theorem dX12_two_136 : decode cX12_two 136 = .ok (.iconst 0, 1) := by decide +kernel
theorem dX12_two_137 : decode cX12_two 137 = .ok (.goto 6, 3) := by decide +kernel
theorem dX12_two_140 : decode cX12_two 140 = .ok (.iload_n 1, 1) := by decide +kernel
theorem dX12_two_141 : decode cX12_two 141 = .ok (.iload_n 2, 1) := by decide +kernel
theorem dX12_two_142 : decode cX12_two 142 = .ok (.idiv, 1) := by decide +kernel
theorem dX12_two_143 : decode cX12_two 143 = .ok (.ireturn, 1) := by decide +kernel
theorem dX12_two_144 : decode cX12_two 144 = .ok (.iload_n 2, 1) := by decide +kernel
theorem dX12_two_145 : decode cX12_two 145 = .ok (.ifCond .ne 7, 3) := by decide +kernel
theorem dX12_two_148 : decode cX12_two 148 = .ok (.iconst 0, 1) := by decide +kernel
theorem dX12_two_149 : decode cX12_two 149 = .ok (.goto 6, 3) := by decide +kernel
theorem dX12_two_152 : decode cX12_two 152 = .ok (.iload_n 1, 1) := by decide +kernel
theorem dX12_two_153 : decode cX12_two 153 = .ok (.iload_n 2, 1) := by decide +kernel
theorem dX12_two_154 : decode cX12_two 154 = .ok (.irem, 1) := by decide +kernel
theorem dX12_two_155 : decode cX12_two 155 = .ok (.ireturn, 1) := by decide +kernel
theorem dX12_two_156 : decode cX12_two 156 = .ok (.iload_n 1, 1) := by decide +kernel
theorem dX12_two_157 : decode cX12_two 157 = .ok (.iload_n 2, 1) := by decide +kernel
theorem dX12_two_158 : decode cX12_two 158 = .ok (.if_icmp .ge 7, 3) := by decide +kernel
theorem dX12_two_161 : decode cX12_two 161 = .ok (.iconst 1, 1) := by decide +kernel
theorem dX12_two_162 : decode cX12_two 162 = .ok (.goto 4, 3) := by decide +kernel
theorem dX12_two_165 : decode cX12_two 165 = .ok (.iconst 0, 1) := by decide +kernel
theorem dX12_two_166 : decode cX12_two 166 = .ok (.ireturn, 1) := by decide +kernel
theorem dX12_two_167 : decode cX12_two 167 = .ok (.iload_n 1, 1) := by decide +kernel
theorem dX12_two_168 : decode cX12_two 168 = .ok (.iload_n 2, 1) := by decide +kernel
theorem dX12_two_169 : decode cX12_two 169 = .ok (.if_icmp .le 7, 3) := by decide +kernel
theorem dX12_two_172 : decode cX12_two 172 = .ok (.iconst 1, 1) := by decide +kernel
theorem dX12_two_173 : decode cX12_two 173 = .ok (.goto 4, 3) := by decide +kernel
theorem dX12_two_176 : decode cX12_two 176 = .ok (.iconst 0, 1) := by decide +kernel
theorem dX12_two_177 : decode cX12_two 177 = .ok (.ireturn, 1) := by decide +kernel
theorem dX12_two_178 : decode cX12_two 178 = .ok (.iload_n 1, 1) := by decide +kernel
theorem dX12_two_179 : decode cX12_two 179 = .ok (.iload_n 2, 1) := by decide +kernel
theorem dX12_two_180 : decode cX12_two 180 = .ok (.if_icmp .ne 7, 3) := by decide +kernel
theorem dX12_two_183 : decode cX12_two 183 = .ok (.iconst 1, 1) := by decide +kernel
theorem dX12_two_184 : decode cX12_two 184 = .ok (.goto 4, 3) := by decide +kernel
theorem dX12_two_187 : decode cX12_two 187 = .ok (.iconst 0, 1) := by decide +kernel
theorem dX12_two_188 : decode cX12_two 188 = .ok (.ireturn, 1) := by decide +kernel
theorem dX12_two_189 : decode cX12_two 189 = .ok (.iload_n 1, 1) := by decide +kernel
theorem dX12_two_190 : decode cX12_two 190 = .ok (.ifCond .eq 11, 3) := by decide +kernel
theorem dX12_two_193 : decode cX12_two 193 = .ok (.iload_n 2, 1) := by decide +kernel
theorem dX12_two_194 : decode cX12_two 194 = .ok (.ifCond .eq 7, 3) := by decide +kernel
theorem dX12_two_197 : decode cX12_two 197 = .ok (.iconst 1, 1) := by decide +kernel
theorem dX12_two_198 : decode cX12_two 198 = .ok (.goto 4, 3) := by decide +kernel
theorem dX12_two_201 : decode cX12_two 201 = .ok (.iconst 0, 1) := by decide +kernel
theorem dX12_two_202 : decode cX12_two 202 = .ok (.ireturn, 1) := by decide +kernel
theorem dX12_two_203 : decode cX12_two 203 = .ok (.iload_n 1, 1) := by decide +kernel
theorem dX12_two_204 : decode cX12_two 204 = .ok (.ifCond .ne 7, 3) := by decide +kernel
theorem dX12_two_207 : decode cX12_two 207 = .ok (.iload_n 2, 1) := by decide +kernel
theorem dX12_two_208 : decode cX12_two 208 = .ok (.ifCond .eq 7, 3) := by decide +kernel
theorem dX12_two_211 : decode cX12_two 211 = .ok (.iconst 1, 1) := by decide +kernel
theorem dX12_two_212 : decode cX12_two 212 = .ok (.goto 4, 3) := by decide +kernel
theorem dX12_two_215 : decode cX12_two 215 = .ok (.iconst 0, 1) := by decide +kernel
theorem dX12_two_216 : decode cX12_two 216 = .ok (.ireturn, 1) := by decide +kernel
theorem dX12_asked_0 : decode cX12_asked 0 = .ok (.iload_n 1, 1) := by decide +kernel
theorem dX12_asked_1 : decode cX12_asked 1 = .ok (.tableswitch 117 98 115 #[102, 117, 117, 117, 117, 92, 87, 117, 117, 117, 112, 107, 117, 117, 117, 117, 117, 97], 87) := by decide +kernel
theorem dX12_asked_88 : decode cX12_asked 88 = .ok (.aload_n 0, 1) := by decide +kernel
theorem dX12_asked_89 : decode cX12_asked 89 = .ok (.getfield 375, 3) := by decide +kernel
theorem dX12_asked_92 : decode cX12_asked 92 = .ok (.ireturn, 1) := by decide +kernel
theorem dX12_asked_93 : decode cX12_asked 93 = .ok (.aload_n 0, 1) := by decide +kernel
theorem dX12_asked_94 : decode cX12_asked 94 = .ok (.getfield 378, 3) := by decide +kernel
theorem dX12_asked_97 : decode cX12_asked 97 = .ok (.ireturn, 1) := by decide +kernel
theorem dX12_asked_98 : decode cX12_asked 98 = .ok (.aload_n 0, 1) := by decide +kernel
theorem dX12_asked_99 : decode cX12_asked 99 = .ok (.getfield 381, 3) := by decide +kernel
theorem dX12_asked_102 : decode cX12_asked 102 = .ok (.ireturn, 1) := by decide +kernel
theorem dX12_asked_103 : decode cX12_asked 103 = .ok (.aload_n 0, 1) := by decide +kernel
theorem dX12_asked_104 : decode cX12_asked 104 = .ok (.getfield 384, 3) := by decide +kernel
theorem dX12_asked_107 : decode cX12_asked 107 = .ok (.ireturn, 1) := by decide +kernel
theorem dX12_asked_108 : decode cX12_asked 108 = .ok (.aload_n 0, 1) := by decide +kernel
theorem dX12_asked_109 : decode cX12_asked 109 = .ok (.getfield 387, 3) := by decide +kernel
theorem dX12_asked_112 : decode cX12_asked 112 = .ok (.ireturn, 1) := by decide +kernel
theorem dX12_asked_113 : decode cX12_asked 113 = .ok (.aload_n 0, 1) := by decide +kernel
theorem dX12_asked_114 : decode cX12_asked 114 = .ok (.getfield 390, 3) := by decide +kernel
theorem dX12_asked_117 : decode cX12_asked 117 = .ok (.ireturn, 1) := by decide +kernel
theorem dX12_asked_118 : decode cX12_asked 118 = .ok (.iload_n 2, 1) := by decide +kernel
theorem dX12_asked_119 : decode cX12_asked 119 = .ok (.ireturn, 1) := by decide +kernel
theorem dX12_comes_0 : decode cX12_comes 0 = .ok (.iconst 0, 1) := by decide +kernel
theorem dX12_comes_1 : decode cX12_comes 1 = .ok (.istore_n 2, 1) := by decide +kernel
theorem dX12_comes_2 : decode cX12_comes 2 = .ok (.aload_n 0, 1) := by decide +kernel
theorem dX12_comes_3 : decode cX12_comes 3 = .ok (.getfield 72, 3) := by decide +kernel
theorem dX12_comes_6 : decode cX12_comes 6 = .ok (.iconst 2, 1) := by decide +kernel
theorem dX12_comes_7 : decode cX12_comes 7 = .ok (.aload_n 0, 1) := by decide +kernel
theorem dX12_comes_8 : decode cX12_comes 8 = .ok (.getfield 295, 3) := by decide +kernel
theorem dX12_comes_11 : decode cX12_comes 11 = .ok (.imul, 1) := by decide +kernel
theorem dX12_comes_12 : decode cX12_comes 12 = .ok (.iload_n 1, 1) := by decide +kernel
theorem dX12_comes_13 : decode cX12_comes 13 = .ok (.iadd, 1) := by decide +kernel
theorem dX12_comes_14 : decode cX12_comes 14 = .ok (.iaload, 1) := by decide +kernel
theorem dX12_comes_15 : decode cX12_comes 15 = .ok (.istore_n 3, 1) := by decide +kernel
theorem dX12_comes_16 : decode cX12_comes 16 = .ok (.iload_n 3, 1) := by decide +kernel
theorem dX12_comes_17 : decode cX12_comes 17 = .ok (.aload_n 0, 1) := by decide +kernel
theorem dX12_comes_18 : decode cX12_comes 18 = .ok (.getfield 75, 3) := by decide +kernel
theorem dX12_comes_21 : decode cX12_comes 21 = .ok (.iconst 2, 1) := by decide +kernel
theorem dX12_comes_22 : decode cX12_comes 22 = .ok (.aload_n 0, 1) := by decide +kernel
theorem dX12_comes_23 : decode cX12_comes 23 = .ok (.getfield 295, 3) := by decide +kernel
theorem dX12_comes_26 : decode cX12_comes 26 = .ok (.imul, 1) := by decide +kernel
theorem dX12_comes_27 : decode cX12_comes 27 = .ok (.iload_n 1, 1) := by decide +kernel
theorem dX12_comes_28 : decode cX12_comes 28 = .ok (.iadd, 1) := by decide +kernel
theorem dX12_comes_29 : decode cX12_comes 29 = .ok (.iaload, 1) := by decide +kernel
theorem dX12_comes_30 : decode cX12_comes 30 = .ok (.if_icmp .ge 113, 3) := by decide +kernel
theorem dX12_comes_33 : decode cX12_comes 33 = .ok (.aload_n 0, 1) := by decide +kernel
theorem dX12_comes_34 : decode cX12_comes 34 = .ok (.getfield 95, 3) := by decide +kernel
theorem dX12_comes_37 : decode cX12_comes 37 = .ok (.iload_n 3, 1) := by decide +kernel
theorem dX12_comes_38 : decode cX12_comes 38 = .ok (.iaload, 1) := by decide +kernel
theorem dX12_comes_39 : decode cX12_comes 39 = .ok (.istore 4, 2) := by decide +kernel
theorem dX12_comes_41 : decode cX12_comes 41 = .ok (.iload 4, 2) := by decide +kernel
theorem dX12_comes_43 : decode cX12_comes 43 = .ok (.bipush 126, 2) := by decide +kernel
theorem dX12_comes_45 : decode cX12_comes 45 = .ok (.if_icmp .ne 30, 3) := by decide +kernel
theorem dX12_comes_48 : decode cX12_comes 48 = .ok (.aload_n 0, 1) := by decide +kernel
theorem dX12_comes_49 : decode cX12_comes 49 = .ok (.getfield 107, 3) := by decide +kernel
theorem dX12_comes_52 : decode cX12_comes 52 = .ok (.iload_n 2, 1) := by decide +kernel
theorem dX12_comes_53 : decode cX12_comes 53 = .ok (.iconst 1, 1) := by decide +kernel
theorem dX12_comes_54 : decode cX12_comes 54 = .ok (.isub, 1) := by decide +kernel
theorem dX12_comes_55 : decode cX12_comes 55 = .ok (.aload_n 0, 1) := by decide +kernel
theorem dX12_comes_56 : decode cX12_comes 56 = .ok (.getfield 107, 3) := by decide +kernel
theorem dX12_comes_59 : decode cX12_comes 59 = .ok (.iload_n 2, 1) := by decide +kernel
theorem dX12_comes_60 : decode cX12_comes 60 = .ok (.iconst 1, 1) := by decide +kernel
theorem dX12_comes_61 : decode cX12_comes 61 = .ok (.isub, 1) := by decide +kernel
theorem dX12_comes_62 : decode cX12_comes 62 = .ok (.iaload, 1) := by decide +kernel
theorem dX12_comes_63 : decode cX12_comes 63 = .ok (.ifCond .ne 7, 3) := by decide +kernel
theorem dX12_comes_66 : decode cX12_comes 66 = .ok (.iconst 1, 1) := by decide +kernel
theorem dX12_comes_67 : decode cX12_comes 67 = .ok (.goto 4, 3) := by decide +kernel
theorem dX12_comes_70 : decode cX12_comes 70 = .ok (.iconst 0, 1) := by decide +kernel
theorem dX12_comes_71 : decode cX12_comes 71 = .ok (.iastore, 1) := by decide +kernel
theorem dX12_comes_72 : decode cX12_comes 72 = .ok (.goto 65, 3) := by decide +kernel
theorem dX12_comes_75 : decode cX12_comes 75 = .ok (.iload 4, 2) := by decide +kernel
theorem dX12_comes_77 : decode cX12_comes 77 = .ok (.invokestatic 240, 3) := by decide +kernel
theorem dX12_comes_80 : decode cX12_comes 80 = .ok (.ifCond .eq 27, 3) := by decide +kernel
theorem dX12_comes_83 : decode cX12_comes 83 = .ok (.aload_n 0, 1) := by decide +kernel
theorem dX12_comes_84 : decode cX12_comes 84 = .ok (.getfield 107, 3) := by decide +kernel
theorem dX12_comes_87 : decode cX12_comes 87 = .ok (.iload_n 2, 1) := by decide +kernel
theorem dX12_comes_88 : decode cX12_comes 88 = .ok (.aload_n 0, 1) := by decide +kernel
theorem dX12_comes_89 : decode cX12_comes 89 = .ok (.iload 4, 2) := by decide +kernel
theorem dX12_comes_91 : decode cX12_comes 91 = .ok (.aload_n 0, 1) := by decide +kernel
theorem dX12_comes_92 : decode cX12_comes 92 = .ok (.getfield 98, 3) := by decide +kernel
theorem dX12_comes_95 : decode cX12_comes 95 = .ok (.iload_n 3, 1) := by decide +kernel
theorem dX12_comes_96 : decode cX12_comes 96 = .ok (.iaload, 1) := by decide +kernel
theorem dX12_comes_97 : decode cX12_comes 97 = .ok (.invokevirtual 393, 3) := by decide +kernel
theorem dX12_comes_100 : decode cX12_comes 100 = .ok (.iastore, 1) := by decide +kernel
theorem dX12_comes_101 : decode cX12_comes 101 = .ok (.iinc 2 1, 3) := by decide +kernel
theorem dX12_comes_104 : decode cX12_comes 104 = .ok (.goto 33, 3) := by decide +kernel
theorem dX12_comes_107 : decode cX12_comes 107 = .ok (.iinc 2 (-1), 3) := by decide +kernel
theorem dX12_comes_110 : decode cX12_comes 110 = .ok (.aload_n 0, 1) := by decide +kernel
theorem dX12_comes_111 : decode cX12_comes 111 = .ok (.getfield 107, 3) := by decide +kernel
theorem dX12_comes_114 : decode cX12_comes 114 = .ok (.iload_n 2, 1) := by decide +kernel
theorem dX12_comes_115 : decode cX12_comes 115 = .ok (.iconst 1, 1) := by decide +kernel
theorem dX12_comes_116 : decode cX12_comes 116 = .ok (.isub, 1) := by decide +kernel
theorem dX12_comes_117 : decode cX12_comes 117 = .ok (.iload 4, 2) := by decide +kernel
theorem dX12_comes_119 : decode cX12_comes 119 = .ok (.aload_n 0, 1) := by decide +kernel
theorem dX12_comes_120 : decode cX12_comes 120 = .ok (.getfield 107, 3) := by decide +kernel
theorem dX12_comes_123 : decode cX12_comes 123 = .ok (.iload_n 2, 1) := by decide +kernel
theorem dX12_comes_124 : decode cX12_comes 124 = .ok (.iconst 1, 1) := by decide +kernel
theorem dX12_comes_125 : decode cX12_comes 125 = .ok (.isub, 1) := by decide +kernel
theorem dX12_comes_126 : decode cX12_comes 126 = .ok (.iaload, 1) := by decide +kernel
theorem dX12_comes_127 : decode cX12_comes 127 = .ok (.aload_n 0, 1) := by decide +kernel
theorem dX12_comes_128 : decode cX12_comes 128 = .ok (.getfield 107, 3) := by decide +kernel
theorem dX12_comes_131 : decode cX12_comes 131 = .ok (.iload_n 2, 1) := by decide +kernel
theorem dX12_comes_132 : decode cX12_comes 132 = .ok (.iaload, 1) := by decide +kernel
theorem dX12_comes_133 : decode cX12_comes 133 = .ok (.invokestatic 396, 3) := by decide +kernel
theorem dX12_comes_136 : decode cX12_comes 136 = .ok (.iastore, 1) := by decide +kernel
theorem dX12_comes_137 : decode cX12_comes 137 = .ok (.iinc 3 1, 3) := by decide +kernel
theorem dX12_comes_140 : decode cX12_comes 140 = .ok (.goto (-124), 3) := by decide +kernel
theorem dX12_comes_143 : decode cX12_comes 143 = .ok (.aload_n 0, 1) := by decide +kernel
theorem dX12_comes_144 : decode cX12_comes 144 = .ok (.getfield 107, 3) := by decide +kernel
theorem dX12_comes_147 : decode cX12_comes 147 = .ok (.iconst 0, 1) := by decide +kernel
theorem dX12_comes_148 : decode cX12_comes 148 = .ok (.iaload, 1) := by decide +kernel
theorem dX12_comes_149 : decode cX12_comes 149 = .ok (.ireturn, 1) := by decide +kernel
theorem dX12_fault_0 : decode cX12_fault 0 = .ok (.iload_n 1, 1) := by decide +kernel
theorem dX12_fault_1 : decode cX12_fault 1 = .ok (.ifCond .ne 10, 3) := by decide +kernel
theorem dX12_fault_4 : decode cX12_fault 4 = .ok (.aload_n 0, 1) := by decide +kernel
theorem dX12_fault_5 : decode cX12_fault 5 = .ok (.getfield 182, 3) := by decide +kernel
theorem dX12_fault_8 : decode cX12_fault 8 = .ok (.goto 16, 3) := by decide +kernel
theorem dX12_fault_11 : decode cX12_fault 11 = .ok (.iload_n 1, 1) := by decide +kernel
theorem dX12_fault_12 : decode cX12_fault 12 = .ok (.iconst 1, 1) := by decide +kernel
theorem dX12_fault_13 : decode cX12_fault 13 = .ok (.if_icmp .ne 10, 3) := by decide +kernel
theorem dX12_fault_16 : decode cX12_fault 16 = .ok (.aload_n 0, 1) := by decide +kernel
theorem dX12_fault_17 : decode cX12_fault 17 = .ok (.getfield 16, 3) := by decide +kernel
theorem dX12_fault_20 : decode cX12_fault 20 = .ok (.goto 4, 3) := by decide +kernel
theorem dX12_fault_23 : decode cX12_fault 23 = .ok (.iconst (-1), 1) := by decide +kernel
theorem dX12_fault_24 : decode cX12_fault 24 = .ok (.ireturn, 1) := by decide +kernel
theorem dX12_isIn_0 : decode cX12_isIn 0 = .ok (.iload_n 0, 1) := by decide +kernel
theorem dX12_isIn_1 : decode cX12_isIn 1 = .ok (.iload_n 1, 1) := by decide +kernel
theorem dX12_isIn_2 : decode cX12_isIn 2 = .ok (.if_icmp .lt 12, 3) := by decide +kernel
theorem dX12_isIn_5 : decode cX12_isIn 5 = .ok (.iload_n 0, 1) := by decide +kernel
theorem dX12_isIn_6 : decode cX12_isIn 6 = .ok (.iload_n 2, 1) := by decide +kernel
theorem dX12_isIn_7 : decode cX12_isIn 7 = .ok (.if_icmp .gt 7, 3) := by decide +kernel
theorem dX12_isIn_10 : decode cX12_isIn 10 = .ok (.iconst 1, 1) := by decide +kernel
theorem dX12_isIn_11 : decode cX12_isIn 11 = .ok (.goto 4, 3) := by decide +kernel
theorem dX12_isIn_14 : decode cX12_isIn 14 = .ok (.iconst 0, 1) := by decide +kernel
theorem dX12_isIn_15 : decode cX12_isIn 15 = .ok (.ireturn, 1) := by decide +kernel
theorem dX12_soulMany_0 : decode cX12_soulMany 0 = .ok (.aload_n 0, 1) := by decide +kernel
theorem dX12_soulMany_1 : decode cX12_soulMany 1 = .ok (.getfield 27, 3) := by decide +kernel
theorem dX12_soulMany_4 : decode cX12_soulMany 4 = .ok (.aload_n 0, 1) := by decide +kernel
theorem dX12_soulMany_5 : decode cX12_soulMany 5 = .ok (.getfield 295, 3) := by decide +kernel
theorem dX12_soulMany_8 : decode cX12_soulMany 8 = .ok (.iaload, 1) := by decide +kernel
theorem dX12_soulMany_9 : decode cX12_soulMany 9 = .ok (.ireturn, 1) := by decide +kernel
theorem dX12_isPlace_0 : decode cX12_isPlace 0 = .ok (.iload_n 1, 1) := by decide +kernel
theorem dX12_isPlace_1 : decode cX12_isPlace 1 = .ok (.iconst 0, 1) := by decide +kernel
theorem dX12_isPlace_2 : decode cX12_isPlace 2 = .ok (.aload_n 0, 1) := by decide +kernel
theorem dX12_isPlace_3 : decode cX12_isPlace 3 = .ok (.getfield 20, 3) := by decide +kernel
theorem dX12_isPlace_6 : decode cX12_isPlace 6 = .ok (.aload_n 0, 1) := by decide +kernel
theorem dX12_isPlace_7 : decode cX12_isPlace 7 = .ok (.getfield 295, 3) := by decide +kernel
theorem dX12_isPlace_10 : decode cX12_isPlace 10 = .ok (.iaload, 1) := by decide +kernel
theorem dX12_isPlace_11 : decode cX12_isPlace 11 = .ok (.iconst 1, 1) := by decide +kernel
theorem dX12_isPlace_12 : decode cX12_isPlace 12 = .ok (.isub, 1) := by decide +kernel
theorem dX12_isPlace_13 : decode cX12_isPlace 13 = .ok (.invokestatic 400, 3) := by decide +kernel
theorem dX12_isPlace_16 : decode cX12_isPlace 16 = .ok (.ireturn, 1) := by decide +kernel
theorem dX12_isWay_0 : decode cX12_isWay 0 = .ok (.iload_n 1, 1) := by decide +kernel
theorem dX12_isWay_1 : decode cX12_isWay 1 = .ok (.iconst 0, 1) := by decide +kernel
theorem dX12_isWay_2 : decode cX12_isWay 2 = .ok (.aload_n 0, 1) := by decide +kernel
theorem dX12_isWay_3 : decode cX12_isWay 3 = .ok (.getfield 24, 3) := by decide +kernel
theorem dX12_isWay_6 : decode cX12_isWay 6 = .ok (.aload_n 0, 1) := by decide +kernel
theorem dX12_isWay_7 : decode cX12_isWay 7 = .ok (.getfield 295, 3) := by decide +kernel
theorem dX12_isWay_10 : decode cX12_isWay 10 = .ok (.iaload, 1) := by decide +kernel
theorem dX12_isWay_11 : decode cX12_isWay 11 = .ok (.iconst 1, 1) := by decide +kernel
theorem dX12_isWay_12 : decode cX12_isWay 12 = .ok (.isub, 1) := by decide +kernel
theorem dX12_isWay_13 : decode cX12_isWay 13 = .ok (.invokestatic 400, 3) := by decide +kernel
theorem dX12_isWay_16 : decode cX12_isWay 16 = .ok (.ireturn, 1) := by decide +kernel
theorem dX12_isCouple_0 : decode cX12_isCouple 0 = .ok (.iload_n 1, 1) := by decide +kernel
theorem dX12_isCouple_1 : decode cX12_isCouple 1 = .ok (.iconst 0, 1) := by decide +kernel
theorem dX12_isCouple_2 : decode cX12_isCouple 2 = .ok (.aload_n 0, 1) := by decide +kernel
theorem dX12_isCouple_3 : decode cX12_isCouple 3 = .ok (.invokevirtual 404, 3) := by decide +kernel
theorem dX12_isCouple_6 : decode cX12_isCouple 6 = .ok (.iconst 1, 1) := by decide +kernel
theorem dX12_isCouple_7 : decode cX12_isCouple 7 = .ok (.isub, 1) := by decide +kernel
theorem dX12_isCouple_8 : decode cX12_isCouple 8 = .ok (.invokestatic 400, 3) := by decide +kernel
theorem dX12_isCouple_11 : decode cX12_isCouple 11 = .ok (.ifCond .eq 45, 3) := by decide +kernel
theorem dX12_isCouple_14 : decode cX12_isCouple 14 = .ok (.iload_n 2, 1) := by decide +kernel
theorem dX12_isCouple_15 : decode cX12_isCouple 15 = .ok (.iconst 0, 1) := by decide +kernel
theorem dX12_isCouple_16 : decode cX12_isCouple 16 = .ok (.aload_n 0, 1) := by decide +kernel
theorem dX12_isCouple_17 : decode cX12_isCouple 17 = .ok (.invokevirtual 404, 3) := by decide +kernel
theorem dX12_isCouple_20 : decode cX12_isCouple 20 = .ok (.iconst 1, 1) := by decide +kernel
theorem dX12_isCouple_21 : decode cX12_isCouple 21 = .ok (.isub, 1) := by decide +kernel
theorem dX12_isCouple_22 : decode cX12_isCouple 22 = .ok (.invokestatic 400, 3) := by decide +kernel
theorem dX12_isCouple_25 : decode cX12_isCouple 25 = .ok (.ifCond .eq 31, 3) := by decide +kernel
theorem dX12_isCouple_28 : decode cX12_isCouple 28 = .ok (.iload_n 1, 1) := by decide +kernel
theorem dX12_isCouple_29 : decode cX12_isCouple 29 = .ok (.iload_n 2, 1) := by decide +kernel
theorem dX12_isCouple_30 : decode cX12_isCouple 30 = .ok (.if_icmp .eq 26, 3) := by decide +kernel
theorem dX12_isCouple_33 : decode cX12_isCouple 33 = .ok (.iload_n 3, 1) := by decide +kernel
theorem dX12_isCouple_34 : decode cX12_isCouple 34 = .ok (.iconst 0, 1) := by decide +kernel
theorem dX12_isCouple_35 : decode cX12_isCouple 35 = .ok (.aload_n 0, 1) := by decide +kernel
theorem dX12_isCouple_36 : decode cX12_isCouple 36 = .ok (.getfield 30, 3) := by decide +kernel
theorem dX12_isCouple_39 : decode cX12_isCouple 39 = .ok (.aload_n 0, 1) := by decide +kernel
theorem dX12_isCouple_40 : decode cX12_isCouple 40 = .ok (.getfield 295, 3) := by decide +kernel
theorem dX12_isCouple_43 : decode cX12_isCouple 43 = .ok (.iaload, 1) := by decide +kernel
theorem dX12_isCouple_44 : decode cX12_isCouple 44 = .ok (.iconst 1, 1) := by decide +kernel
theorem dX12_isCouple_45 : decode cX12_isCouple 45 = .ok (.isub, 1) := by decide +kernel
theorem dX12_isCouple_46 : decode cX12_isCouple 46 = .ok (.invokestatic 400, 3) := by decide +kernel
theorem dX12_isCouple_49 : decode cX12_isCouple 49 = .ok (.ifCond .eq 7, 3) := by decide +kernel
theorem dX12_isCouple_52 : decode cX12_isCouple 52 = .ok (.iconst 1, 1) := by decide +kernel
theorem dX12_isCouple_53 : decode cX12_isCouple 53 = .ok (.goto 4, 3) := by decide +kernel
theorem dX12_isCouple_56 : decode cX12_isCouple 56 = .ok (.iconst 0, 1) := by decide +kernel
theorem dX12_isCouple_57 : decode cX12_isCouple 57 = .ok (.ireturn, 1) := by decide +kernel
theorem dX12_temperOf_0 : decode cX12_temperOf 0 = .ok (.aload_n 0, 1) := by decide +kernel
theorem dX12_temperOf_1 : decode cX12_temperOf 1 = .ok (.getfield 407, 3) := by decide +kernel
theorem dX12_temperOf_4 : decode cX12_temperOf 4 = .ok (.ifCond .eq 39, 3) := by decide +kernel
theorem dX12_temperOf_7 : decode cX12_temperOf 7 = .ok (.iload_n 2, 1) := by decide +kernel
theorem dX12_temperOf_8 : decode cX12_temperOf 8 = .ok (.ifCond .ne 20, 3) := by decide +kernel
theorem dX12_temperOf_11 : decode cX12_temperOf 11 = .ok (.aload_n 0, 1) := by decide +kernel
theorem dX12_temperOf_12 : decode cX12_temperOf 12 = .ok (.getfield 57, 3) := by decide +kernel
theorem dX12_temperOf_15 : decode cX12_temperOf 15 = .ok (.bipush 6, 2) := by decide +kernel
theorem dX12_temperOf_17 : decode cX12_temperOf 17 = .ok (.aload_n 0, 1) := by decide +kernel
theorem dX12_temperOf_18 : decode cX12_temperOf 18 = .ok (.getfield 295, 3) := by decide +kernel
theorem dX12_temperOf_21 : decode cX12_temperOf 21 = .ok (.imul, 1) := by decide +kernel
theorem dX12_temperOf_22 : decode cX12_temperOf 22 = .ok (.iload_n 1, 1) := by decide +kernel
theorem dX12_temperOf_23 : decode cX12_temperOf 23 = .ok (.iadd, 1) := by decide +kernel
theorem dX12_temperOf_24 : decode cX12_temperOf 24 = .ok (.iaload, 1) := by decide +kernel
theorem dX12_temperOf_25 : decode cX12_temperOf 25 = .ok (.goto 17, 3) := by decide +kernel
theorem dX12_temperOf_28 : decode cX12_temperOf 28 = .ok (.aload_n 0, 1) := by decide +kernel
theorem dX12_temperOf_29 : decode cX12_temperOf 29 = .ok (.getfield 60, 3) := by decide +kernel
theorem dX12_temperOf_32 : decode cX12_temperOf 32 = .ok (.bipush 6, 2) := by decide +kernel
theorem dX12_temperOf_34 : decode cX12_temperOf 34 = .ok (.aload_n 0, 1) := by decide +kernel
theorem dX12_temperOf_35 : decode cX12_temperOf 35 = .ok (.getfield 295, 3) := by decide +kernel
theorem dX12_temperOf_38 : decode cX12_temperOf 38 = .ok (.imul, 1) := by decide +kernel
theorem dX12_temperOf_39 : decode cX12_temperOf 39 = .ok (.iload_n 1, 1) := by decide +kernel
theorem dX12_temperOf_40 : decode cX12_temperOf 40 = .ok (.iadd, 1) := by decide +kernel
theorem dX12_temperOf_41 : decode cX12_temperOf 41 = .ok (.iaload, 1) := by decide +kernel
theorem dX12_temperOf_42 : decode cX12_temperOf 42 = .ok (.ireturn, 1) := by decide +kernel
theorem dX12_temperOf_43 : decode cX12_temperOf 43 = .ok (.aload_n 0, 1) := by decide +kernel
theorem dX12_temperOf_44 : decode cX12_temperOf 44 = .ok (.getfield 110, 3) := by decide +kernel
theorem dX12_temperOf_47 : decode cX12_temperOf 47 = .ok (.iconst 1, 1) := by decide +kernel
theorem dX12_temperOf_48 : decode cX12_temperOf 48 = .ok (.iconst 2, 1) := by decide +kernel
theorem dX12_temperOf_49 : decode cX12_temperOf 49 = .ok (.iload_n 1, 1) := by decide +kernel
theorem dX12_temperOf_50 : decode cX12_temperOf 50 = .ok (.imul, 1) := by decide +kernel
theorem dX12_temperOf_51 : decode cX12_temperOf 51 = .ok (.iadd, 1) := by decide +kernel
theorem dX12_temperOf_52 : decode cX12_temperOf 52 = .ok (.iload_n 2, 1) := by decide +kernel
theorem dX12_temperOf_53 : decode cX12_temperOf 53 = .ok (.iadd, 1) := by decide +kernel
theorem dX12_temperOf_54 : decode cX12_temperOf 54 = .ok (.iaload, 1) := by decide +kernel
theorem dX12_temperOf_55 : decode cX12_temperOf 55 = .ok (.ireturn, 1) := by decide +kernel
theorem dX12_begin_0 : decode cX12_begin 0 = .ok (.bipush 6, 2) := by decide +kernel
theorem dX12_begin_2 : decode cX12_begin 2 = .ok (.aload_n 0, 1) := by decide +kernel
theorem dX12_begin_3 : decode cX12_begin 3 = .ok (.getfield 295, 3) := by decide +kernel
theorem dX12_begin_6 : decode cX12_begin 6 = .ok (.imul, 1) := by decide +kernel
theorem dX12_begin_7 : decode cX12_begin 7 = .ok (.iload 4, 2) := by decide +kernel
theorem dX12_begin_9 : decode cX12_begin 9 = .ok (.iadd, 1) := by decide +kernel
theorem dX12_begin_10 : decode cX12_begin 10 = .ok (.istore 5, 2) := by decide +kernel
theorem dX12_begin_12 : decode cX12_begin 12 = .ok (.aload_n 1, 1) := by decide +kernel
theorem dX12_begin_13 : decode cX12_begin 13 = .ok (.bipush 13, 2) := by decide +kernel
theorem dX12_begin_15 : decode cX12_begin 15 = .ok (.iload_n 2, 1) := by decide +kernel
theorem dX12_begin_16 : decode cX12_begin 16 = .ok (.iastore, 1) := by decide +kernel
theorem dX12_begin_17 : decode cX12_begin 17 = .ok (.aload_n 1, 1) := by decide +kernel
theorem dX12_begin_18 : decode cX12_begin 18 = .ok (.bipush 14, 2) := by decide +kernel
theorem dX12_begin_20 : decode cX12_begin 20 = .ok (.iload_n 3, 1) := by decide +kernel
theorem dX12_begin_21 : decode cX12_begin 21 = .ok (.iastore, 1) := by decide +kernel
theorem dX12_begin_22 : decode cX12_begin 22 = .ok (.aload_n 1, 1) := by decide +kernel
theorem dX12_begin_23 : decode cX12_begin 23 = .ok (.bipush 15, 2) := by decide +kernel
theorem dX12_begin_25 : decode cX12_begin 25 = .ok (.iload 4, 2) := by decide +kernel
theorem dX12_begin_27 : decode cX12_begin 27 = .ok (.iastore, 1) := by decide +kernel
theorem dX12_begin_28 : decode cX12_begin 28 = .ok (.aload_n 1, 1) := by decide +kernel
theorem dX12_begin_29 : decode cX12_begin 29 = .ok (.bipush 19, 2) := by decide +kernel
theorem dX12_begin_31 : decode cX12_begin 31 = .ok (.iconst 0, 1) := by decide +kernel
theorem dX12_begin_32 : decode cX12_begin 32 = .ok (.iastore, 1) := by decide +kernel
theorem dX12_begin_33 : decode cX12_begin 33 = .ok (.aload_n 1, 1) := by decide +kernel
theorem dX12_begin_34 : decode cX12_begin 34 = .ok (.bipush 20, 2) := by decide +kernel
theorem dX12_begin_36 : decode cX12_begin 36 = .ok (.aload_n 0, 1) := by decide +kernel
theorem dX12_begin_37 : decode cX12_begin 37 = .ok (.getfield 63, 3) := by decide +kernel
theorem dX12_begin_40 : decode cX12_begin 40 = .ok (.iload 5, 2) := by decide +kernel
theorem dX12_begin_42 : decode cX12_begin 42 = .ok (.iaload, 1) := by decide +kernel
theorem dX12_begin_43 : decode cX12_begin 43 = .ok (.iastore, 1) := by decide +kernel
theorem dX12_begin_44 : decode cX12_begin 44 = .ok (.aload_n 1, 1) := by decide +kernel
theorem dX12_begin_45 : decode cX12_begin 45 = .ok (.bipush 21, 2) := by decide +kernel
theorem dX12_begin_47 : decode cX12_begin 47 = .ok (.aload_n 0, 1) := by decide +kernel
theorem dX12_begin_48 : decode cX12_begin 48 = .ok (.getfield 66, 3) := by decide +kernel
theorem dX12_begin_51 : decode cX12_begin 51 = .ok (.iload 5, 2) := by decide +kernel
theorem dX12_begin_53 : decode cX12_begin 53 = .ok (.iaload, 1) := by decide +kernel
theorem dX12_begin_54 : decode cX12_begin 54 = .ok (.iastore, 1) := by decide +kernel
theorem dX12_begin_55 : decode cX12_begin 55 = .ok (.iconst 0, 1) := by decide +kernel
theorem dX12_begin_56 : decode cX12_begin 56 = .ok (.istore 6, 2) := by decide +kernel
theorem dX12_begin_58 : decode cX12_begin 58 = .ok (.iload 6, 2) := by decide +kernel
theorem dX12_begin_60 : decode cX12_begin 60 = .ok (.aload_n 0, 1) := by decide +kernel
theorem dX12_begin_61 : decode cX12_begin 61 = .ok (.getfield 66, 3) := by decide +kernel
theorem dX12_begin_64 : decode cX12_begin 64 = .ok (.iload 5, 2) := by decide +kernel
theorem dX12_begin_66 : decode cX12_begin 66 = .ok (.iaload, 1) := by decide +kernel
theorem dX12_begin_67 : decode cX12_begin 67 = .ok (.if_icmp .ge 29, 3) := by decide +kernel
theorem dX12_begin_70 : decode cX12_begin 70 = .ok (.aload_n 1, 1) := by decide +kernel
theorem dX12_begin_71 : decode cX12_begin 71 = .ok (.bipush 22, 2) := by decide +kernel
theorem dX12_begin_73 : decode cX12_begin 73 = .ok (.iload 6, 2) := by decide +kernel
theorem dX12_begin_75 : decode cX12_begin 75 = .ok (.iadd, 1) := by decide +kernel
theorem dX12_begin_76 : decode cX12_begin 76 = .ok (.aload_n 0, 1) := by decide +kernel
theorem dX12_begin_77 : decode cX12_begin 77 = .ok (.getfield 69, 3) := by decide +kernel
theorem dX12_begin_80 : decode cX12_begin 80 = .ok (.bipush 8, 2) := by decide +kernel
theorem dX12_begin_82 : decode cX12_begin 82 = .ok (.iload 5, 2) := by decide +kernel
theorem dX12_begin_84 : decode cX12_begin 84 = .ok (.imul, 1) := by decide +kernel
theorem dX12_begin_85 : decode cX12_begin 85 = .ok (.iload 6, 2) := by decide +kernel
theorem dX12_begin_87 : decode cX12_begin 87 = .ok (.iadd, 1) := by decide +kernel
theorem dX12_begin_88 : decode cX12_begin 88 = .ok (.iaload, 1) := by decide +kernel
theorem dX12_begin_89 : decode cX12_begin 89 = .ok (.iastore, 1) := by decide +kernel
theorem dX12_begin_90 : decode cX12_begin 90 = .ok (.iinc 6 1, 3) := by decide +kernel
theorem dX12_begin_93 : decode cX12_begin 93 = .ok (.goto (-35), 3) := by decide +kernel
theorem dX12_begin_96 : decode cX12_begin 96 = .ok (.return_, 1) := by decide +kernel
theorem dX12_isEnded_0 : decode cX12_isEnded 0 = .ok (.aload_n 0, 1) := by decide +kernel
theorem dX12_isEnded_1 : decode cX12_isEnded 1 = .ok (.bipush 20, 2) := by decide +kernel
theorem dX12_isEnded_3 : decode cX12_isEnded 3 = .ok (.iaload, 1) := by decide +kernel
theorem dX12_isEnded_4 : decode cX12_isEnded 4 = .ok (.ifCond .eq 10, 3) := by decide +kernel
theorem dX12_isEnded_7 : decode cX12_isEnded 7 = .ok (.aload_n 0, 1) := by decide +kernel
theorem dX12_isEnded_8 : decode cX12_isEnded 8 = .ok (.bipush 21, 2) := by decide +kernel
theorem dX12_isEnded_10 : decode cX12_isEnded 10 = .ok (.iaload, 1) := by decide +kernel
theorem dX12_isEnded_11 : decode cX12_isEnded 11 = .ok (.ifCond .ne 7, 3) := by decide +kernel
theorem dX12_isEnded_14 : decode cX12_isEnded 14 = .ok (.iconst 1, 1) := by decide +kernel
theorem dX12_isEnded_15 : decode cX12_isEnded 15 = .ok (.goto 4, 3) := by decide +kernel
theorem dX12_isEnded_18 : decode cX12_isEnded 18 = .ok (.iconst 0, 1) := by decide +kernel
theorem dX12_isEnded_19 : decode cX12_isEnded 19 = .ok (.ireturn, 1) := by decide +kernel
theorem dX12_warm_0 : decode cX12_warm 0 = .ok (.iload_n 0, 1) := by decide +kernel
theorem dX12_warm_1 : decode cX12_warm 1 = .ok (.ifCond .ge 7, 3) := by decide +kernel
theorem dX12_warm_4 : decode cX12_warm 4 = .ok (.iconst 0, 1) := by decide +kernel
theorem dX12_warm_5 : decode cX12_warm 5 = .ok (.goto 15, 3) := by decide +kernel
theorem dX12_warm_8 : decode cX12_warm 8 = .ok (.iload_n 0, 1) := by decide +kernel
theorem dX12_warm_9 : decode cX12_warm 9 = .ok (.bipush 99, 2) := by decide +kernel
theorem dX12_warm_11 : decode cX12_warm 11 = .ok (.if_icmp .le 8, 3) := by decide +kernel
theorem dX12_warm_14 : decode cX12_warm 14 = .ok (.bipush 99, 2) := by decide +kernel
theorem dX12_warm_16 : decode cX12_warm 16 = .ok (.goto 4, 3) := by decide +kernel
theorem dX12_warm_19 : decode cX12_warm 19 = .ok (.iload_n 0, 1) := by decide +kernel
theorem dX12_warm_20 : decode cX12_warm 20 = .ok (.ireturn, 1) := by decide +kernel
theorem dX12_say_0 : decode cX12_say 0 = .ok (.aload_n 1, 1) := by decide +kernel
theorem dX12_say_1 : decode cX12_say 1 = .ok (.bipush 19, 2) := by decide +kernel
theorem dX12_say_3 : decode cX12_say 3 = .ok (.iaload, 1) := by decide +kernel
theorem dX12_say_4 : decode cX12_say 4 = .ok (.iconst 2, 1) := by decide +kernel
theorem dX12_say_5 : decode cX12_say 5 = .ok (.irem, 1) := by decide +kernel
theorem dX12_say_6 : decode cX12_say 6 = .ok (.ifCond .ne 10, 3) := by decide +kernel
theorem dX12_say_9 : decode cX12_say 9 = .ok (.aload_n 1, 1) := by decide +kernel
theorem dX12_say_10 : decode cX12_say 10 = .ok (.bipush 13, 2) := by decide +kernel
theorem dX12_say_12 : decode cX12_say 12 = .ok (.iaload, 1) := by decide +kernel
theorem dX12_say_13 : decode cX12_say 13 = .ok (.goto 7, 3) := by decide +kernel
theorem dX12_say_16 : decode cX12_say 16 = .ok (.aload_n 1, 1) := by decide +kernel
theorem dX12_say_17 : decode cX12_say 17 = .ok (.bipush 14, 2) := by decide +kernel
theorem dX12_say_19 : decode cX12_say 19 = .ok (.iaload, 1) := by decide +kernel
theorem dX12_say_20 : decode cX12_say 20 = .ok (.istore 4, 2) := by decide +kernel
theorem dX12_say_22 : decode cX12_say 22 = .ok (.aload_n 1, 1) := by decide +kernel
theorem dX12_say_23 : decode cX12_say 23 = .ok (.bipush 19, 2) := by decide +kernel
theorem dX12_say_25 : decode cX12_say 25 = .ok (.dup2, 1) := by decide +kernel
theorem dX12_say_26 : decode cX12_say 26 = .ok (.iaload, 1) := by decide +kernel
theorem dX12_say_27 : decode cX12_say 27 = .ok (.iconst 1, 1) := by decide +kernel
theorem dX12_say_28 : decode cX12_say 28 = .ok (.iadd, 1) := by decide +kernel
theorem dX12_say_29 : decode cX12_say 29 = .ok (.iastore, 1) := by decide +kernel
theorem dX12_say_30 : decode cX12_say 30 = .ok (.aload_n 1, 1) := by decide +kernel
theorem dX12_say_31 : decode cX12_say 31 = .ok (.bipush 21, 2) := by decide +kernel
theorem dX12_say_33 : decode cX12_say 33 = .ok (.dup2, 1) := by decide +kernel
theorem dX12_say_34 : decode cX12_say 34 = .ok (.iaload, 1) := by decide +kernel
theorem dX12_say_35 : decode cX12_say 35 = .ok (.iconst 1, 1) := by decide +kernel
theorem dX12_say_36 : decode cX12_say 36 = .ok (.isub, 1) := by decide +kernel
theorem dX12_say_37 : decode cX12_say 37 = .ok (.iastore, 1) := by decide +kernel
theorem dX12_say_38 : decode cX12_say 38 = .ok (.aload_n 0, 1) := by decide +kernel
theorem dX12_say_39 : decode cX12_say 39 = .ok (.aload_n 1, 1) := by decide +kernel
theorem dX12_say_40 : decode cX12_say 40 = .ok (.bipush 20, 2) := by decide +kernel
theorem dX12_say_42 : decode cX12_say 42 = .ok (.iaload, 1) := by decide +kernel
theorem dX12_say_43 : decode cX12_say 43 = .ok (.putfield 375, 3) := by decide +kernel
theorem dX12_say_46 : decode cX12_say 46 = .ok (.aload_n 0, 1) := by decide +kernel
theorem dX12_say_47 : decode cX12_say 47 = .ok (.aload_n 1, 1) := by decide +kernel
theorem dX12_say_48 : decode cX12_say 48 = .ok (.bipush 22, 2) := by decide +kernel
theorem dX12_say_50 : decode cX12_say 50 = .ok (.aload_n 1, 1) := by decide +kernel
theorem dX12_say_51 : decode cX12_say 51 = .ok (.bipush 21, 2) := by decide +kernel
theorem dX12_say_53 : decode cX12_say 53 = .ok (.iaload, 1) := by decide +kernel
theorem dX12_say_54 : decode cX12_say 54 = .ok (.iadd, 1) := by decide +kernel
theorem dX12_say_55 : decode cX12_say 55 = .ok (.iaload, 1) := by decide +kernel
theorem dX12_say_56 : decode cX12_say 56 = .ok (.putfield 378, 3) := by decide +kernel
