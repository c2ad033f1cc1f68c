theorem dX0_init_0 : decode cX0_init 0 = .ok (.aload_n 0, 1) := by decide +kernel
theorem dX0_init_1 : decode cX0_init 1 = .ok (.invokespecial 3, 3) := by decide +kernel
theorem dX0_init_4 : decode cX0_init 4 = .ok (.aload_n 0, 1) := by decide +kernel
theorem dX0_init_5 : decode cX0_init 5 = .ok (.bipush 8, 2) := by decide +kernel
theorem dX0_init_7 : decode cX0_init 7 = .ok (.newarray .int, 2) := by decide +kernel
theorem dX0_init_9 : decode cX0_init 9 = .ok (.putfield 9, 3) := by decide +kernel
theorem dX0_init_12 : decode cX0_init 12 = .ok (.aload_n 0, 1) := by decide +kernel
theorem dX0_init_13 : decode cX0_init 13 = .ok (.bipush 8, 2) := by decide +kernel
theorem dX0_init_15 : decode cX0_init 15 = .ok (.newarray .int, 2) := by decide +kernel
theorem dX0_init_17 : decode cX0_init 17 = .ok (.putfield 15, 3) := by decide +kernel
theorem dX0_init_20 : decode cX0_init 20 = .ok (.aload_n 0, 1) := by decide +kernel
theorem dX0_init_21 : decode cX0_init 21 = .ok (.iconst 0, 1) := by decide +kernel
theorem dX0_init_22 : decode cX0_init 22 = .ok (.putfield 18, 3) := by decide +kernel
theorem dX0_init_25 : decode cX0_init 25 = .ok (.return_, 1) := by decide +kernel
theorem dX0_add_0 : decode cX0_add 0 = .ok (.aload_n 0, 1) := by decide +kernel
theorem dX0_add_1 : decode cX0_add 1 = .ok (.getfield 18, 3) := by decide +kernel
theorem dX0_add_4 : decode cX0_add 4 = .ok (.bipush 8, 2) := by decide +kernel
theorem dX0_add_6 : decode cX0_add 6 = .ok (.if_icmp .ge 33, 3) := by decide +kernel
theorem dX0_add_9 : decode cX0_add 9 = .ok (.aload_n 0, 1) := by decide +kernel
theorem dX0_add_10 : decode cX0_add 10 = .ok (.getfield 9, 3) := by decide +kernel
theorem dX0_add_13 : decode cX0_add 13 = .ok (.aload_n 0, 1) := by decide +kernel
theorem dX0_add_14 : decode cX0_add 14 = .ok (.getfield 18, 3) := by decide +kernel
theorem dX0_add_17 : decode cX0_add 17 = .ok (.iload_n 1, 1) := by decide +kernel
theorem dX0_add_18 : decode cX0_add 18 = .ok (.iastore, 1) := by decide +kernel
theorem dX0_add_19 : decode cX0_add 19 = .ok (.aload_n 0, 1) := by decide +kernel
theorem dX0_add_20 : decode cX0_add 20 = .ok (.getfield 15, 3) := by decide +kernel
theorem dX0_add_23 : decode cX0_add 23 = .ok (.aload_n 0, 1) := by decide +kernel
theorem dX0_add_24 : decode cX0_add 24 = .ok (.getfield 18, 3) := by decide +kernel
theorem dX0_add_27 : decode cX0_add 27 = .ok (.iload_n 2, 1) := by decide +kernel
theorem dX0_add_28 : decode cX0_add 28 = .ok (.iastore, 1) := by decide +kernel
theorem dX0_add_29 : decode cX0_add 29 = .ok (.aload_n 0, 1) := by decide +kernel
theorem dX0_add_30 : decode cX0_add 30 = .ok (.dup, 1) := by decide +kernel
theorem dX0_add_31 : decode cX0_add 31 = .ok (.getfield 18, 3) := by decide +kernel
theorem dX0_add_34 : decode cX0_add 34 = .ok (.iconst 1, 1) := by decide +kernel
theorem dX0_add_35 : decode cX0_add 35 = .ok (.iadd, 1) := by decide +kernel
theorem dX0_add_36 : decode cX0_add 36 = .ok (.putfield 18, 3) := by decide +kernel
theorem dX0_add_39 : decode cX0_add 39 = .ok (.return_, 1) := by decide +kernel
theorem dX1_init_0 : decode cX1_init 0 = .ok (.aload_n 0, 1) := by decide +kernel
theorem dX1_init_1 : decode cX1_init 1 = .ok (.invokespecial 3, 3) := by decide +kernel
theorem dX1_init_4 : decode cX1_init 4 = .ok (.aload_n 0, 1) := by decide +kernel
theorem dX1_init_5 : decode cX1_init 5 = .ok (.sipush 169, 3) := by decide +kernel
theorem dX1_init_8 : decode cX1_init 8 = .ok (.newarray .int, 2) := by decide +kernel
theorem dX1_init_10 : decode cX1_init 10 = .ok (.putfield 11, 3) := by decide +kernel
theorem dX1_init_13 : decode cX1_init 13 = .ok (.aload_n 0, 1) := by decide +kernel
theorem dX1_init_14 : decode cX1_init 14 = .ok (.iconst 0, 1) := by decide +kernel
theorem dX1_init_15 : decode cX1_init 15 = .ok (.putfield 15, 3) := by decide +kernel
theorem dX1_init_18 : decode cX1_init 18 = .ok (.aload_n 0, 1) := by decide +kernel
theorem dX1_init_19 : decode cX1_init 19 = .ok (.iconst 0, 1) := by decide +kernel
theorem dX1_init_20 : decode cX1_init 20 = .ok (.putfield 19, 3) := by decide +kernel
theorem dX1_init_23 : decode cX1_init 23 = .ok (.return_, 1) := by decide +kernel
theorem dX1_workOut_0 : decode cX1_workOut 0 = .ok (.aload_n 0, 1) := by decide +kernel
theorem dX1_workOut_1 : decode cX1_workOut 1 = .ok (.aload_n 1, 1) := by decide +kernel
theorem dX1_workOut_2 : decode cX1_workOut 2 = .ok (.invokevirtual 22, 3) := by decide +kernel
theorem dX1_workOut_5 : decode cX1_workOut 5 = .ok (.iconst 0, 1) := by decide +kernel
theorem dX1_workOut_6 : decode cX1_workOut 6 = .ok (.aload_n 1, 1) := by decide +kernel
theorem dX1_workOut_7 : decode cX1_workOut 7 = .ok (.getfield 26, 3) := by decide +kernel
theorem dX1_workOut_10 : decode cX1_workOut 10 = .ok (.iconst 2, 1) := by decide +kernel
theorem dX1_workOut_11 : decode cX1_workOut 11 = .ok (.invokestatic 31, 3) := by decide +kernel
theorem dX1_workOut_14 : decode cX1_workOut 14 = .ok (.ifCond .eq 10, 3) := by decide +kernel
theorem dX1_workOut_17 : decode cX1_workOut 17 = .ok (.aload_n 1, 1) := by decide +kernel
theorem dX1_workOut_18 : decode cX1_workOut 18 = .ok (.getfield 26, 3) := by decide +kernel
theorem dX1_workOut_21 : decode cX1_workOut 21 = .ok (.goto 4, 3) := by decide +kernel
theorem dX1_workOut_24 : decode cX1_workOut 24 = .ok (.iconst 0, 1) := by decide +kernel
theorem dX1_workOut_25 : decode cX1_workOut 25 = .ok (.istore_n 2, 1) := by decide +kernel
theorem dX1_workOut_26 : decode cX1_workOut 26 = .ok (.getstatic 35, 3) := by decide +kernel
theorem dX1_workOut_29 : decode cX1_workOut 29 = .ok (.iload_n 2, 1) := by decide +kernel
theorem dX1_workOut_30 : decode cX1_workOut 30 = .ok (.iaload, 1) := by decide +kernel
theorem dX1_workOut_31 : decode cX1_workOut 31 = .ok (.istore_n 3, 1) := by decide +kernel
theorem dX1_workOut_32 : decode cX1_workOut 32 = .ok (.getstatic 38, 3) := by decide +kernel
theorem dX1_workOut_35 : decode cX1_workOut 35 = .ok (.iload_n 2, 1) := by decide +kernel
theorem dX1_workOut_36 : decode cX1_workOut 36 = .ok (.iaload, 1) := by decide +kernel
theorem dX1_workOut_37 : decode cX1_workOut 37 = .ok (.istore 4, 2) := by decide +kernel
theorem dX1_workOut_39 : decode cX1_workOut 39 = .ok (.iconst 0, 1) := by decide +kernel
theorem dX1_workOut_40 : decode cX1_workOut 40 = .ok (.istore 5, 2) := by decide +kernel
theorem dX1_workOut_42 : decode cX1_workOut 42 = .ok (.iload 5, 2) := by decide +kernel
theorem dX1_workOut_44 : decode cX1_workOut 44 = .ok (.aload_n 0, 1) := by decide +kernel
theorem dX1_workOut_45 : decode cX1_workOut 45 = .ok (.getfield 19, 3) := by decide +kernel
theorem dX1_workOut_48 : decode cX1_workOut 48 = .ok (.if_icmp .ge 42, 3) := by decide +kernel
theorem dX1_workOut_51 : decode cX1_workOut 51 = .ok (.iconst 0, 1) := by decide +kernel
theorem dX1_workOut_52 : decode cX1_workOut 52 = .ok (.istore 6, 2) := by decide +kernel
theorem dX1_workOut_54 : decode cX1_workOut 54 = .ok (.iload 6, 2) := by decide +kernel
theorem dX1_workOut_56 : decode cX1_workOut 56 = .ok (.aload_n 0, 1) := by decide +kernel
theorem dX1_workOut_57 : decode cX1_workOut 57 = .ok (.getfield 15, 3) := by decide +kernel
theorem dX1_workOut_60 : decode cX1_workOut 60 = .ok (.if_icmp .ge 24, 3) := by decide +kernel
theorem dX1_workOut_63 : decode cX1_workOut 63 = .ok (.aload_n 0, 1) := by decide +kernel
theorem dX1_workOut_64 : decode cX1_workOut 64 = .ok (.iload 6, 2) := by decide +kernel
theorem dX1_workOut_66 : decode cX1_workOut 66 = .ok (.iload 5, 2) := by decide +kernel
theorem dX1_workOut_68 : decode cX1_workOut 68 = .ok (.invokestatic 41, 3) := by decide +kernel
theorem dX1_workOut_71 : decode cX1_workOut 71 = .ok (.iconst (-1), 1) := by decide +kernel
theorem dX1_workOut_72 : decode cX1_workOut 72 = .ok (.iload_n 3, 1) := by decide +kernel
theorem dX1_workOut_73 : decode cX1_workOut 73 = .ok (.iload 4, 2) := by decide +kernel
theorem dX1_workOut_75 : decode cX1_workOut 75 = .ok (.invokevirtual 45, 3) := by decide +kernel
theorem dX1_workOut_78 : decode cX1_workOut 78 = .ok (.iinc 6 1, 3) := by decide +kernel
theorem dX1_workOut_81 : decode cX1_workOut 81 = .ok (.goto (-27), 3) := by decide +kernel
theorem dX1_workOut_84 : decode cX1_workOut 84 = .ok (.iinc 5 1, 3) := by decide +kernel
theorem dX1_workOut_87 : decode cX1_workOut 87 = .ok (.goto (-45), 3) := by decide +kernel
theorem dX1_workOut_90 : decode cX1_workOut 90 = .ok (.aload_n 0, 1) := by decide +kernel
theorem dX1_workOut_91 : decode cX1_workOut 91 = .ok (.getfield 19, 3) := by decide +kernel
theorem dX1_workOut_94 : decode cX1_workOut 94 = .ok (.iconst 1, 1) := by decide +kernel
theorem dX1_workOut_95 : decode cX1_workOut 95 = .ok (.isub, 1) := by decide +kernel
theorem dX1_workOut_96 : decode cX1_workOut 96 = .ok (.istore 5, 2) := by decide +kernel
theorem dX1_workOut_98 : decode cX1_workOut 98 = .ok (.iload 5, 2) := by decide +kernel
theorem dX1_workOut_100 : decode cX1_workOut 100 = .ok (.ifCond .lt 43, 3) := by decide +kernel
theorem dX1_workOut_103 : decode cX1_workOut 103 = .ok (.aload_n 0, 1) := by decide +kernel
theorem dX1_workOut_104 : decode cX1_workOut 104 = .ok (.getfield 15, 3) := by decide +kernel
theorem dX1_workOut_107 : decode cX1_workOut 107 = .ok (.iconst 1, 1) := by decide +kernel
theorem dX1_workOut_108 : decode cX1_workOut 108 = .ok (.isub, 1) := by decide +kernel
theorem dX1_workOut_109 : decode cX1_workOut 109 = .ok (.istore 6, 2) := by decide +kernel
theorem dX1_workOut_111 : decode cX1_workOut 111 = .ok (.iload 6, 2) := by decide +kernel
theorem dX1_workOut_113 : decode cX1_workOut 113 = .ok (.ifCond .lt 24, 3) := by decide +kernel
theorem dX1_workOut_116 : decode cX1_workOut 116 = .ok (.aload_n 0, 1) := by decide +kernel
theorem dX1_workOut_117 : decode cX1_workOut 117 = .ok (.iload 6, 2) := by decide +kernel
theorem dX1_workOut_119 : decode cX1_workOut 119 = .ok (.iload 5, 2) := by decide +kernel
theorem dX1_workOut_121 : decode cX1_workOut 121 = .ok (.invokestatic 41, 3) := by decide +kernel
theorem dX1_workOut_124 : decode cX1_workOut 124 = .ok (.iconst 1, 1) := by decide +kernel
theorem dX1_workOut_125 : decode cX1_workOut 125 = .ok (.iload_n 3, 1) := by decide +kernel
theorem dX1_workOut_126 : decode cX1_workOut 126 = .ok (.iload 4, 2) := by decide +kernel
theorem dX1_workOut_128 : decode cX1_workOut 128 = .ok (.invokevirtual 45, 3) := by decide +kernel
theorem dX1_workOut_131 : decode cX1_workOut 131 = .ok (.iinc 6 (-1), 3) := by decide +kernel
theorem dX1_workOut_134 : decode cX1_workOut 134 = .ok (.goto (-23), 3) := by decide +kernel
theorem dX1_workOut_137 : decode cX1_workOut 137 = .ok (.iinc 5 (-1), 3) := by decide +kernel
theorem dX1_workOut_140 : decode cX1_workOut 140 = .ok (.goto (-42), 3) := by decide +kernel
theorem dX1_workOut_143 : decode cX1_workOut 143 = .ok (.return_, 1) := by decide +kernel
theorem dX1_start_0 : decode cX1_start 0 = .ok (.aload_n 0, 1) := by decide +kernel
theorem dX1_start_1 : decode cX1_start 1 = .ok (.aload_n 1, 1) := by decide +kernel
theorem dX1_start_2 : decode cX1_start 2 = .ok (.getfield 49, 3) := by decide +kernel
theorem dX1_start_5 : decode cX1_start 5 = .ok (.putfield 15, 3) := by decide +kernel
theorem dX1_start_8 : decode cX1_start 8 = .ok (.aload_n 0, 1) := by decide +kernel
theorem dX1_start_9 : decode cX1_start 9 = .ok (.aload_n 1, 1) := by decide +kernel
theorem dX1_start_10 : decode cX1_start 10 = .ok (.getfield 50, 3) := by decide +kernel
theorem dX1_start_13 : decode cX1_start 13 = .ok (.putfield 19, 3) := by decide +kernel
theorem dX1_start_16 : decode cX1_start 16 = .ok (.iconst 0, 1) := by decide +kernel
theorem dX1_start_17 : decode cX1_start 17 = .ok (.istore_n 2, 1) := by decide +kernel
theorem dX1_start_18 : decode cX1_start 18 = .ok (.iload_n 2, 1) := by decide +kernel
theorem dX1_start_19 : decode cX1_start 19 = .ok (.aload_n 0, 1) := by decide +kernel
theorem dX1_start_20 : decode cX1_start 20 = .ok (.getfield 11, 3) := by decide +kernel
theorem dX1_start_23 : decode cX1_start 23 = .ok (.arraylength, 1) := by decide +kernel
theorem dX1_start_24 : decode cX1_start 24 = .ok (.if_icmp .ge 19, 3) := by decide +kernel
theorem dX1_start_27 : decode cX1_start 27 = .ok (.aload_n 0, 1) := by decide +kernel
theorem dX1_start_28 : decode cX1_start 28 = .ok (.getfield 11, 3) := by decide +kernel
theorem dX1_start_31 : decode cX1_start 31 = .ok (.iload_n 2, 1) := by decide +kernel
theorem dX1_start_32 : decode cX1_start 32 = .ok (.aload_n 1, 1) := by decide +kernel
theorem dX1_start_33 : decode cX1_start 33 = .ok (.getfield 51, 3) := by decide +kernel
theorem dX1_start_36 : decode cX1_start 36 = .ok (.iastore, 1) := by decide +kernel
theorem dX1_start_37 : decode cX1_start 37 = .ok (.iinc 2 1, 3) := by decide +kernel
theorem dX1_start_40 : decode cX1_start 40 = .ok (.goto (-22), 3) := by decide +kernel
theorem dX1_start_43 : decode cX1_start 43 = .ok (.iconst 0, 1) := by decide +kernel
theorem dX1_start_44 : decode cX1_start 44 = .ok (.istore_n 2, 1) := by decide +kernel
theorem dX1_start_45 : decode cX1_start 45 = .ok (.iload_n 2, 1) := by decide +kernel
theorem dX1_start_46 : decode cX1_start 46 = .ok (.aload_n 0, 1) := by decide +kernel
theorem dX1_start_47 : decode cX1_start 47 = .ok (.getfield 19, 3) := by decide +kernel
theorem dX1_start_50 : decode cX1_start 50 = .ok (.if_icmp .ge 59, 3) := by decide +kernel
theorem dX1_start_53 : decode cX1_start 53 = .ok (.iload_n 2, 1) := by decide +kernel
theorem dX1_start_54 : decode cX1_start 54 = .ok (.aload_n 1, 1) := by decide +kernel
theorem dX1_start_55 : decode cX1_start 55 = .ok (.getfield 54, 3) := by decide +kernel
theorem dX1_start_58 : decode cX1_start 58 = .ok (.arraylength, 1) := by decide +kernel
theorem dX1_start_59 : decode cX1_start 59 = .ok (.if_icmp .ge 50, 3) := by decide +kernel
theorem dX1_start_62 : decode cX1_start 62 = .ok (.iconst 0, 1) := by decide +kernel
theorem dX1_start_63 : decode cX1_start 63 = .ok (.istore_n 3, 1) := by decide +kernel
theorem dX1_start_64 : decode cX1_start 64 = .ok (.iload_n 3, 1) := by decide +kernel
theorem dX1_start_65 : decode cX1_start 65 = .ok (.aload_n 0, 1) := by decide +kernel
theorem dX1_start_66 : decode cX1_start 66 = .ok (.getfield 15, 3) := by decide +kernel
theorem dX1_start_69 : decode cX1_start 69 = .ok (.if_icmp .ge 34, 3) := by decide +kernel
theorem dX1_start_72 : decode cX1_start 72 = .ok (.aload_n 1, 1) := by decide +kernel
theorem dX1_start_73 : decode cX1_start 73 = .ok (.getfield 54, 3) := by decide +kernel
theorem dX1_start_76 : decode cX1_start 76 = .ok (.iload_n 2, 1) := by decide +kernel
theorem dX1_start_77 : decode cX1_start 77 = .ok (.iaload, 1) := by decide +kernel
theorem dX1_start_78 : decode cX1_start 78 = .ok (.iload_n 3, 1) := by decide +kernel
theorem dX1_start_79 : decode cX1_start 79 = .ok (.ishr, 1) := by decide +kernel
theorem dX1_start_80 : decode cX1_start 80 = .ok (.iconst 1, 1) := by decide +kernel
theorem dX1_start_81 : decode cX1_start 81 = .ok (.iand, 1) := by decide +kernel
theorem dX1_start_82 : decode cX1_start 82 = .ok (.iconst 1, 1) := by decide +kernel
theorem dX1_start_83 : decode cX1_start 83 = .ok (.if_icmp .ne 14, 3) := by decide +kernel
theorem dX1_start_86 : decode cX1_start 86 = .ok (.aload_n 0, 1) := by decide +kernel
theorem dX1_start_87 : decode cX1_start 87 = .ok (.getfield 11, 3) := by decide +kernel
theorem dX1_start_90 : decode cX1_start 90 = .ok (.iload_n 3, 1) := by decide +kernel
theorem dX1_start_91 : decode cX1_start 91 = .ok (.iload_n 2, 1) := by decide +kernel
theorem dX1_start_92 : decode cX1_start 92 = .ok (.invokestatic 41, 3) := by decide +kernel
theorem dX1_start_95 : decode cX1_start 95 = .ok (.iconst 0, 1) := by decide +kernel
theorem dX1_start_96 : decode cX1_start 96 = .ok (.iastore, 1) := by decide +kernel
theorem dX1_start_97 : decode cX1_start 97 = .ok (.iinc 3 1, 3) := by decide +kernel
theorem dX1_start_100 : decode cX1_start 100 = .ok (.goto (-36), 3) := by decide +kernel
theorem dX1_start_103 : decode cX1_start 103 = .ok (.iinc 2 1, 3) := by decide +kernel
theorem dX1_start_106 : decode cX1_start 106 = .ok (.goto (-61), 3) := by decide +kernel
theorem dX1_start_109 : decode cX1_start 109 = .ok (.return_, 1) := by decide +kernel
theorem dX1_stepTo_0 : decode cX1_stepTo 0 = .ok (.iload_n 1, 1) := by decide +kernel
theorem dX1_stepTo_1 : decode cX1_stepTo 1 = .ok (.iload_n 2, 1) := by decide +kernel
theorem dX1_stepTo_2 : decode cX1_stepTo 2 = .ok (.bipush 13, 2) := by decide +kernel
theorem dX1_stepTo_4 : decode cX1_stepTo 4 = .ok (.imul, 1) := by decide +kernel
theorem dX1_stepTo_5 : decode cX1_stepTo 5 = .ok (.iadd, 1) := by decide +kernel
theorem dX1_stepTo_6 : decode cX1_stepTo 6 = .ok (.istore 5, 2) := by decide +kernel
theorem dX1_stepTo_8 : decode cX1_stepTo 8 = .ok (.aload_n 0, 1) := by decide +kernel
theorem dX1_stepTo_9 : decode cX1_stepTo 9 = .ok (.getfield 11, 3) := by decide +kernel
theorem dX1_stepTo_12 : decode cX1_stepTo 12 = .ok (.iload_n 1, 1) := by decide +kernel
theorem dX1_stepTo_13 : decode cX1_stepTo 13 = .ok (.iload_n 2, 1) := by decide +kernel
theorem dX1_stepTo_14 : decode cX1_stepTo 14 = .ok (.iadd, 1) := by decide +kernel
theorem dX1_stepTo_15 : decode cX1_stepTo 15 = .ok (.iaload, 1) := by decide +kernel
theorem dX1_stepTo_16 : decode cX1_stepTo 16 = .ok (.aload_n 0, 1) := by decide +kernel
theorem dX1_stepTo_17 : decode cX1_stepTo 17 = .ok (.getfield 11, 3) := by decide +kernel
theorem dX1_stepTo_20 : decode cX1_stepTo 20 = .ok (.iload 5, 2) := by decide +kernel
theorem dX1_stepTo_22 : decode cX1_stepTo 22 = .ok (.iaload, 1) := by decide +kernel
theorem dX1_stepTo_23 : decode cX1_stepTo 23 = .ok (.invokestatic 57, 3) := by decide +kernel
theorem dX1_stepTo_26 : decode cX1_stepTo 26 = .ok (.iload_n 3, 1) := by decide +kernel
theorem dX1_stepTo_27 : decode cX1_stepTo 27 = .ok (.iadd, 1) := by decide +kernel
theorem dX1_stepTo_28 : decode cX1_stepTo 28 = .ok (.istore 6, 2) := by decide +kernel
theorem dX1_stepTo_30 : decode cX1_stepTo 30 = .ok (.aload_n 0, 1) := by decide +kernel
theorem dX1_stepTo_31 : decode cX1_stepTo 31 = .ok (.getfield 11, 3) := by decide +kernel
theorem dX1_stepTo_34 : decode cX1_stepTo 34 = .ok (.iload 5, 2) := by decide +kernel
theorem dX1_stepTo_36 : decode cX1_stepTo 36 = .ok (.iconst 1, 1) := by decide +kernel
theorem dX1_stepTo_37 : decode cX1_stepTo 37 = .ok (.isub, 1) := by decide +kernel
theorem dX1_stepTo_38 : decode cX1_stepTo 38 = .ok (.iaload, 1) := by decide +kernel
theorem dX1_stepTo_39 : decode cX1_stepTo 39 = .ok (.aload_n 0, 1) := by decide +kernel
theorem dX1_stepTo_40 : decode cX1_stepTo 40 = .ok (.getfield 11, 3) := by decide +kernel
theorem dX1_stepTo_43 : decode cX1_stepTo 43 = .ok (.iload 5, 2) := by decide +kernel
theorem dX1_stepTo_45 : decode cX1_stepTo 45 = .ok (.iconst 1, 1) := by decide +kernel
theorem dX1_stepTo_46 : decode cX1_stepTo 46 = .ok (.iadd, 1) := by decide +kernel
theorem dX1_stepTo_47 : decode cX1_stepTo 47 = .ok (.iaload, 1) := by decide +kernel
theorem dX1_stepTo_48 : decode cX1_stepTo 48 = .ok (.invokestatic 57, 3) := by decide +kernel
theorem dX1_stepTo_51 : decode cX1_stepTo 51 = .ok (.iload 4, 2) := by decide +kernel
theorem dX1_stepTo_53 : decode cX1_stepTo 53 = .ok (.iadd, 1) := by decide +kernel
theorem dX1_stepTo_54 : decode cX1_stepTo 54 = .ok (.istore 7, 2) := by decide +kernel
theorem dX1_stepTo_56 : decode cX1_stepTo 56 = .ok (.aload_n 0, 1) := by decide +kernel
theorem dX1_stepTo_57 : decode cX1_stepTo 57 = .ok (.getfield 11, 3) := by decide +kernel
theorem dX1_stepTo_60 : decode cX1_stepTo 60 = .ok (.iload_n 1, 1) := by decide +kernel
theorem dX1_stepTo_61 : decode cX1_stepTo 61 = .ok (.aload_n 0, 1) := by decide +kernel
theorem dX1_stepTo_62 : decode cX1_stepTo 62 = .ok (.getfield 11, 3) := by decide +kernel
theorem dX1_stepTo_65 : decode cX1_stepTo 65 = .ok (.iload_n 1, 1) := by decide +kernel
theorem dX1_stepTo_66 : decode cX1_stepTo 66 = .ok (.iaload, 1) := by decide +kernel
theorem dX1_stepTo_67 : decode cX1_stepTo 67 = .ok (.iload 6, 2) := by decide +kernel
theorem dX1_stepTo_69 : decode cX1_stepTo 69 = .ok (.iload 7, 2) := by decide +kernel
theorem dX1_stepTo_71 : decode cX1_stepTo 71 = .ok (.invokestatic 57, 3) := by decide +kernel
theorem dX1_stepTo_74 : decode cX1_stepTo 74 = .ok (.invokestatic 57, 3) := by decide +kernel
theorem dX1_stepTo_77 : decode cX1_stepTo 77 = .ok (.iastore, 1) := by decide +kernel
theorem dX1_stepTo_78 : decode cX1_stepTo 78 = .ok (.return_, 1) := by decide +kernel
theorem dX1_indexOf_0 : decode cX1_indexOf 0 = .ok (.iload_n 1, 1) := by decide +kernel
theorem dX1_indexOf_1 : decode cX1_indexOf 1 = .ok (.iconst 1, 1) := by decide +kernel
theorem dX1_indexOf_2 : decode cX1_indexOf 2 = .ok (.iadd, 1) := by decide +kernel
theorem dX1_indexOf_3 : decode cX1_indexOf 3 = .ok (.bipush 13, 2) := by decide +kernel
theorem dX1_indexOf_5 : decode cX1_indexOf 5 = .ok (.imul, 1) := by decide +kernel
theorem dX1_indexOf_6 : decode cX1_indexOf 6 = .ok (.iload_n 0, 1) := by decide +kernel
theorem dX1_indexOf_7 : decode cX1_indexOf 7 = .ok (.iadd, 1) := by decide +kernel
theorem dX1_indexOf_8 : decode cX1_indexOf 8 = .ok (.iconst 1, 1) := by decide +kernel
theorem dX1_indexOf_9 : decode cX1_indexOf 9 = .ok (.iadd, 1) := by decide +kernel
theorem dX1_indexOf_10 : decode cX1_indexOf 10 = .ok (.ireturn, 1) := by decide +kernel
theorem dX1_at_0 : decode cX1_at 0 = .ok (.iload_n 1, 1) := by decide +kernel
theorem dX1_at_1 : decode cX1_at 1 = .ok (.ifCond .lt 36, 3) := by decide +kernel
theorem dX1_at_4 : decode cX1_at 4 = .ok (.iload_n 1, 1) := by decide +kernel
theorem dX1_at_5 : decode cX1_at 5 = .ok (.aload_n 0, 1) := by decide +kernel
theorem dX1_at_6 : decode cX1_at 6 = .ok (.getfield 15, 3) := by decide +kernel
theorem dX1_at_9 : decode cX1_at 9 = .ok (.if_icmp .ge 28, 3) := by decide +kernel
theorem dX1_at_12 : decode cX1_at 12 = .ok (.iload_n 2, 1) := by decide +kernel
theorem dX1_at_13 : decode cX1_at 13 = .ok (.ifCond .lt 24, 3) := by decide +kernel
theorem dX1_at_16 : decode cX1_at 16 = .ok (.iload_n 2, 1) := by decide +kernel
theorem dX1_at_17 : decode cX1_at 17 = .ok (.aload_n 0, 1) := by decide +kernel
theorem dX1_at_18 : decode cX1_at 18 = .ok (.getfield 19, 3) := by decide +kernel
theorem dX1_at_21 : decode cX1_at 21 = .ok (.if_icmp .ge 16, 3) := by decide +kernel
theorem dX1_at_24 : decode cX1_at 24 = .ok (.aload_n 0, 1) := by decide +kernel
theorem dX1_at_25 : decode cX1_at 25 = .ok (.getfield 11, 3) := by decide +kernel
theorem dX1_at_28 : decode cX1_at 28 = .ok (.iload_n 1, 1) := by decide +kernel
theorem dX1_at_29 : decode cX1_at 29 = .ok (.iload_n 2, 1) := by decide +kernel
theorem dX1_at_30 : decode cX1_at 30 = .ok (.invokestatic 41, 3) := by decide +kernel
theorem dX1_at_33 : decode cX1_at 33 = .ok (.iaload, 1) := by decide +kernel
theorem dX1_at_34 : decode cX1_at 34 = .ok (.goto 5, 3) := by decide +kernel
theorem dX1_at_37 : decode cX1_at 37 = .ok (.bipush (-4), 2) := by decide +kernel
theorem dX1_at_39 : decode cX1_at 39 = .ok (.ireturn, 1) := by decide +kernel
theorem dX1_cellsSoFar_0 : decode cX1_cellsSoFar 0 = .ok (.iconst 0, 1) := by decide +kernel
theorem dX1_cellsSoFar_1 : decode cX1_cellsSoFar 1 = .ok (.istore_n 2, 1) := by decide +kernel
theorem dX1_cellsSoFar_2 : decode cX1_cellsSoFar 2 = .ok (.iconst 0, 1) := by decide +kernel
theorem dX1_cellsSoFar_3 : decode cX1_cellsSoFar 3 = .ok (.istore_n 3, 1) := by decide +kernel
theorem dX1_cellsSoFar_4 : decode cX1_cellsSoFar 4 = .ok (.iload_n 3, 1) := by decide +kernel
theorem dX1_cellsSoFar_5 : decode cX1_cellsSoFar 5 = .ok (.aload_n 0, 1) := by decide +kernel
theorem dX1_cellsSoFar_6 : decode cX1_cellsSoFar 6 = .ok (.getfield 19, 3) := by decide +kernel
theorem dX1_cellsSoFar_9 : decode cX1_cellsSoFar 9 = .ok (.if_icmp .ge 45, 3) := by decide +kernel
theorem dX1_cellsSoFar_12 : decode cX1_cellsSoFar 12 = .ok (.iconst 0, 1) := by decide +kernel
theorem dX1_cellsSoFar_13 : decode cX1_cellsSoFar 13 = .ok (.istore 4, 2) := by decide +kernel
theorem dX1_cellsSoFar_15 : decode cX1_cellsSoFar 15 = .ok (.iload 4, 2) := by decide +kernel
theorem dX1_cellsSoFar_17 : decode cX1_cellsSoFar 17 = .ok (.aload_n 0, 1) := by decide +kernel
theorem dX1_cellsSoFar_18 : decode cX1_cellsSoFar 18 = .ok (.getfield 15, 3) := by decide +kernel
theorem dX1_cellsSoFar_21 : decode cX1_cellsSoFar 21 = .ok (.if_icmp .ge 27, 3) := by decide +kernel
theorem dX1_cellsSoFar_24 : decode cX1_cellsSoFar 24 = .ok (.aload_n 0, 1) := by decide +kernel
theorem dX1_cellsSoFar_25 : decode cX1_cellsSoFar 25 = .ok (.getfield 11, 3) := by decide +kernel
theorem dX1_cellsSoFar_28 : decode cX1_cellsSoFar 28 = .ok (.iload 4, 2) := by decide +kernel
theorem dX1_cellsSoFar_30 : decode cX1_cellsSoFar 30 = .ok (.iload_n 3, 1) := by decide +kernel
theorem dX1_cellsSoFar_31 : decode cX1_cellsSoFar 31 = .ok (.invokestatic 41, 3) := by decide +kernel
theorem dX1_cellsSoFar_34 : decode cX1_cellsSoFar 34 = .ok (.iaload, 1) := by decide +kernel
theorem dX1_cellsSoFar_35 : decode cX1_cellsSoFar 35 = .ok (.iload_n 1, 1) := by decide +kernel
theorem dX1_cellsSoFar_36 : decode cX1_cellsSoFar 36 = .ok (.if_icmp .ne 6, 3) := by decide +kernel
theorem dX1_cellsSoFar_39 : decode cX1_cellsSoFar 39 = .ok (.iinc 2 1, 3) := by decide +kernel
theorem dX1_cellsSoFar_42 : decode cX1_cellsSoFar 42 = .ok (.iinc 4 1, 3) := by decide +kernel
theorem dX1_cellsSoFar_45 : decode cX1_cellsSoFar 45 = .ok (.goto (-30), 3) := by decide +kernel
theorem dX1_cellsSoFar_48 : decode cX1_cellsSoFar 48 = .ok (.iinc 3 1, 3) := by decide +kernel
theorem dX1_cellsSoFar_51 : decode cX1_cellsSoFar 51 = .ok (.goto (-47), 3) := by decide +kernel
theorem dX1_cellsSoFar_54 : decode cX1_cellsSoFar 54 = .ok (.iload_n 2, 1) := by decide +kernel
theorem dX1_cellsSoFar_55 : decode cX1_cellsSoFar 55 = .ok (.ireturn, 1) := by decide +kernel
theorem dX1_leastIn_0 : decode cX1_leastIn 0 = .ok (.bipush (-4), 2) := by decide +kernel
theorem dX1_leastIn_2 : decode cX1_leastIn 2 = .ok (.istore 5, 2) := by decide +kernel
theorem dX1_leastIn_4 : decode cX1_leastIn 4 = .ok (.iload_n 2, 1) := by decide +kernel
theorem dX1_leastIn_5 : decode cX1_leastIn 5 = .ok (.iconst 0, 1) := by decide +kernel
theorem dX1_leastIn_6 : decode cX1_leastIn 6 = .ok (.invokestatic 62, 3) := by decide +kernel
theorem dX1_leastIn_9 : decode cX1_leastIn 9 = .ok (.istore 6, 2) := by decide +kernel
theorem dX1_leastIn_11 : decode cX1_leastIn 11 = .ok (.iload 6, 2) := by decide +kernel
theorem dX1_leastIn_13 : decode cX1_leastIn 13 = .ok (.iload 4, 2) := by decide +kernel
theorem dX1_leastIn_15 : decode cX1_leastIn 15 = .ok (.if_icmp .gt 78, 3) := by decide +kernel
theorem dX1_leastIn_18 : decode cX1_leastIn 18 = .ok (.iload 6, 2) := by decide +kernel
theorem dX1_leastIn_20 : decode cX1_leastIn 20 = .ok (.aload_n 0, 1) := by decide +kernel
theorem dX1_leastIn_21 : decode cX1_leastIn 21 = .ok (.getfield 19, 3) := by decide +kernel
theorem dX1_leastIn_24 : decode cX1_leastIn 24 = .ok (.if_icmp .ge 69, 3) := by decide +kernel
theorem dX1_leastIn_27 : decode cX1_leastIn 27 = .ok (.iload_n 1, 1) := by decide +kernel
theorem dX1_leastIn_28 : decode cX1_leastIn 28 = .ok (.iconst 0, 1) := by decide +kernel
theorem dX1_leastIn_29 : decode cX1_leastIn 29 = .ok (.invokestatic 62, 3) := by decide +kernel
theorem dX1_leastIn_32 : decode cX1_leastIn 32 = .ok (.istore 7, 2) := by decide +kernel
theorem dX1_leastIn_34 : decode cX1_leastIn 34 = .ok (.iload 7, 2) := by decide +kernel
theorem dX1_leastIn_36 : decode cX1_leastIn 36 = .ok (.iload_n 3, 1) := by decide +kernel
theorem dX1_leastIn_37 : decode cX1_leastIn 37 = .ok (.if_icmp .gt 50, 3) := by decide +kernel
theorem dX1_leastIn_40 : decode cX1_leastIn 40 = .ok (.iload 7, 2) := by decide +kernel
theorem dX1_leastIn_42 : decode cX1_leastIn 42 = .ok (.aload_n 0, 1) := by decide +kernel
theorem dX1_leastIn_43 : decode cX1_leastIn 43 = .ok (.getfield 15, 3) := by decide +kernel
theorem dX1_leastIn_46 : decode cX1_leastIn 46 = .ok (.if_icmp .ge 41, 3) := by decide +kernel
theorem dX1_leastIn_49 : decode cX1_leastIn 49 = .ok (.aload_n 0, 1) := by decide +kernel
theorem dX1_leastIn_50 : decode cX1_leastIn 50 = .ok (.getfield 11, 3) := by decide +kernel
theorem dX1_leastIn_53 : decode cX1_leastIn 53 = .ok (.iload 7, 2) := by decide +kernel
theorem dX1_leastIn_55 : decode cX1_leastIn 55 = .ok (.iload 6, 2) := by decide +kernel
theorem dX1_leastIn_57 : decode cX1_leastIn 57 = .ok (.invokestatic 41, 3) := by decide +kernel
theorem dX1_leastIn_60 : decode cX1_leastIn 60 = .ok (.iaload, 1) := by decide +kernel
theorem dX1_leastIn_61 : decode cX1_leastIn 61 = .ok (.istore 8, 2) := by decide +kernel
theorem dX1_leastIn_63 : decode cX1_leastIn 63 = .ok (.iload 5, 2) := by decide +kernel
theorem dX1_leastIn_65 : decode cX1_leastIn 65 = .ok (.bipush (-4), 2) := by decide +kernel
theorem dX1_leastIn_67 : decode cX1_leastIn 67 = .ok (.if_icmp .eq 10, 3) := by decide +kernel
theorem dX1_leastIn_70 : decode cX1_leastIn 70 = .ok (.iload 8, 2) := by decide +kernel
theorem dX1_leastIn_72 : decode cX1_leastIn 72 = .ok (.iload 5, 2) := by decide +kernel
theorem dX1_leastIn_74 : decode cX1_leastIn 74 = .ok (.if_icmp .ge 7, 3) := by decide +kernel
theorem dX1_leastIn_77 : decode cX1_leastIn 77 = .ok (.iload 8, 2) := by decide +kernel
theorem dX1_leastIn_79 : decode cX1_leastIn 79 = .ok (.istore 5, 2) := by decide +kernel
theorem dX1_leastIn_81 : decode cX1_leastIn 81 = .ok (.iinc 7 1, 3) := by decide +kernel
theorem dX1_leastIn_84 : decode cX1_leastIn 84 = .ok (.goto (-50), 3) := by decide +kernel
theorem dX1_leastIn_87 : decode cX1_leastIn 87 = .ok (.iinc 6 1, 3) := by decide +kernel
theorem dX1_leastIn_90 : decode cX1_leastIn 90 = .ok (.goto (-79), 3) := by decide +kernel
theorem dX1_leastIn_93 : decode cX1_leastIn 93 = .ok (.iload 5, 2) := by decide +kernel
theorem dX1_leastIn_95 : decode cX1_leastIn 95 = .ok (.ireturn, 1) := by decide +kernel
theorem dX2_init_0 : decode cX2_init 0 = .ok (.aload_n 0, 1) := by decide +kernel
theorem dX2_init_1 : decode cX2_init 1 = .ok (.invokespecial 1, 3) := by decide +kernel
theorem dX2_init_4 : decode cX2_init 4 = .ok (.aload_n 0, 1) := by decide +kernel
theorem dX2_init_5 : decode cX2_init 5 = .ok (.iconst 0, 1) := by decide +kernel
theorem dX2_init_6 : decode cX2_init 6 = .ok (.putfield 7, 3) := by decide +kernel
theorem dX2_init_9 : decode cX2_init 9 = .ok (.aload_n 0, 1) := by decide +kernel
theorem dX2_init_10 : decode cX2_init 10 = .ok (.iconst 0, 1) := by decide +kernel
theorem dX2_init_11 : decode cX2_init 11 = .ok (.putfield 13, 3) := by decide +kernel
theorem dX2_init_14 : decode cX2_init 14 = .ok (.aload_n 0, 1) := by decide +kernel
theorem dX2_init_15 : decode cX2_init 15 = .ok (.iconst 0, 1) := by decide +kernel
theorem dX2_init_16 : decode cX2_init 16 = .ok (.putfield 16, 3) := by decide +kernel
theorem dX2_init_19 : decode cX2_init 19 = .ok (.aload_n 0, 1) := by decide +kernel
theorem dX2_init_20 : decode cX2_init 20 = .ok (.iconst 0, 1) := by decide +kernel
theorem dX2_init_21 : decode cX2_init 21 = .ok (.putfield 19, 3) := by decide +kernel
theorem dX2_init_24 : decode cX2_init 24 = .ok (.return_, 1) := by decide +kernel
theorem dX2_weigh_0 : decode cX2_weigh 0 = .ok (.aload_n 2, 1) := by decide +kernel
theorem dX2_weigh_1 : decode cX2_weigh 1 = .ok (.aload_n 1, 1) := by decide +kernel
theorem dX2_weigh_2 : decode cX2_weigh 2 = .ok (.getfield 22, 3) := by decide +kernel
theorem dX2_weigh_5 : decode cX2_weigh 5 = .ok (.aload_n 1, 1) := by decide +kernel
theorem dX2_weigh_6 : decode cX2_weigh 6 = .ok (.getfield 27, 3) := by decide +kernel
theorem dX2_weigh_9 : decode cX2_weigh 9 = .ok (.iload_n 3, 1) := by decide +kernel
theorem dX2_weigh_10 : decode cX2_weigh 10 = .ok (.iload 4, 2) := by decide +kernel
theorem dX2_weigh_12 : decode cX2_weigh 12 = .ok (.invokevirtual 30, 3) := by decide +kernel
theorem dX2_weigh_15 : decode cX2_weigh 15 = .ok (.ifCond .ne 5, 3) := by decide +kernel
theorem dX2_weigh_18 : decode cX2_weigh 18 = .ok (.iconst 0, 1) := by decide +kernel
theorem dX2_weigh_19 : decode cX2_weigh 19 = .ok (.ireturn, 1) := by decide +kernel
theorem dX2_weigh_20 : decode cX2_weigh 20 = .ok (.aload_n 0, 1) := by decide +kernel
theorem dX2_weigh_21 : decode cX2_weigh 21 = .ok (.iconst 0, 1) := by decide +kernel
theorem dX2_weigh_22 : decode cX2_weigh 22 = .ok (.putfield 7, 3) := by decide +kernel
theorem dX2_weigh_25 : decode cX2_weigh 25 = .ok (.aload_n 0, 1) := by decide +kernel
theorem dX2_weigh_26 : decode cX2_weigh 26 = .ok (.iconst 0, 1) := by decide +kernel
theorem dX2_weigh_27 : decode cX2_weigh 27 = .ok (.putfield 13, 3) := by decide +kernel
theorem dX2_weigh_30 : decode cX2_weigh 30 = .ok (.aload_n 0, 1) := by decide +kernel
theorem dX2_weigh_31 : decode cX2_weigh 31 = .ok (.iconst 0, 1) := by decide +kernel
theorem dX2_weigh_32 : decode cX2_weigh 32 = .ok (.putfield 16, 3) := by decide +kernel
theorem dX2_weigh_35 : decode cX2_weigh 35 = .ok (.aload_n 0, 1) := by decide +kernel
theorem dX2_weigh_36 : decode cX2_weigh 36 = .ok (.iconst 0, 1) := by decide +kernel
theorem dX2_weigh_37 : decode cX2_weigh 37 = .ok (.putfield 19, 3) := by decide +kernel
theorem dX2_weigh_40 : decode cX2_weigh 40 = .ok (.iconst 0, 1) := by decide +kernel
theorem dX2_weigh_41 : decode cX2_weigh 41 = .ok (.istore 5, 2) := by decide +kernel
theorem dX2_weigh_43 : decode cX2_weigh 43 = .ok (.iload 5, 2) := by decide +kernel
theorem dX2_weigh_45 : decode cX2_weigh 45 = .ok (.aload_n 2, 1) := by decide +kernel
theorem dX2_weigh_46 : decode cX2_weigh 46 = .ok (.getfield 36, 3) := by decide +kernel
theorem dX2_weigh_49 : decode cX2_weigh 49 = .ok (.if_icmp .ge 85, 3) := by decide +kernel
theorem dX2_weigh_52 : decode cX2_weigh 52 = .ok (.aload_n 1, 1) := by decide +kernel
theorem dX2_weigh_53 : decode cX2_weigh 53 = .ok (.getfield 39, 3) := by decide +kernel
theorem dX2_weigh_56 : decode cX2_weigh 56 = .ok (.iload_n 3, 1) := by decide +kernel
theorem dX2_weigh_57 : decode cX2_weigh 57 = .ok (.aload_n 2, 1) := by decide +kernel
theorem dX2_weigh_58 : decode cX2_weigh 58 = .ok (.getfield 43, 3) := by decide +kernel
theorem dX2_weigh_61 : decode cX2_weigh 61 = .ok (.iload 5, 2) := by decide +kernel
theorem dX2_weigh_63 : decode cX2_weigh 63 = .ok (.iaload, 1) := by decide +kernel
theorem dX2_weigh_64 : decode cX2_weigh 64 = .ok (.iadd, 1) := by decide +kernel
theorem dX2_weigh_65 : decode cX2_weigh 65 = .ok (.iload 4, 2) := by decide +kernel
theorem dX2_weigh_67 : decode cX2_weigh 67 = .ok (.aload_n 2, 1) := by decide +kernel
theorem dX2_weigh_68 : decode cX2_weigh 68 = .ok (.getfield 46, 3) := by decide +kernel
theorem dX2_weigh_71 : decode cX2_weigh 71 = .ok (.iload 5, 2) := by decide +kernel
theorem dX2_weigh_73 : decode cX2_weigh 73 = .ok (.iaload, 1) := by decide +kernel
theorem dX2_weigh_74 : decode cX2_weigh 74 = .ok (.iadd, 1) := by decide +kernel
theorem dX2_weigh_75 : decode cX2_weigh 75 = .ok (.invokestatic 49, 3) := by decide +kernel
theorem dX2_weigh_78 : decode cX2_weigh 78 = .ok (.iaload, 1) := by decide +kernel
theorem dX2_weigh_79 : decode cX2_weigh 79 = .ok (.istore 6, 2) := by decide +kernel
theorem dX2_weigh_81 : decode cX2_weigh 81 = .ok (.aload_n 0, 1) := by decide +kernel
theorem dX2_weigh_82 : decode cX2_weigh 82 = .ok (.dup, 1) := by decide +kernel
theorem dX2_weigh_83 : decode cX2_weigh 83 = .ok (.getfield 7, 3) := by decide +kernel
theorem dX2_weigh_86 : decode cX2_weigh 86 = .ok (.iload 6, 2) := by decide +kernel
theorem dX2_weigh_88 : decode cX2_weigh 88 = .ok (.iadd, 1) := by decide +kernel
theorem dX2_weigh_89 : decode cX2_weigh 89 = .ok (.putfield 7, 3) := by decide +kernel
theorem dX2_weigh_92 : decode cX2_weigh 92 = .ok (.iload 6, 2) := by decide +kernel
theorem dX2_weigh_94 : decode cX2_weigh 94 = .ok (.ifCond .ne 13, 3) := by decide +kernel
theorem dX2_weigh_97 : decode cX2_weigh 97 = .ok (.aload_n 0, 1) := by decide +kernel
theorem dX2_weigh_98 : decode cX2_weigh 98 = .ok (.dup, 1) := by decide +kernel
theorem dX2_weigh_99 : decode cX2_weigh 99 = .ok (.getfield 19, 3) := by decide +kernel
theorem dX2_weigh_102 : decode cX2_weigh 102 = .ok (.iconst 1, 1) := by decide +kernel
theorem dX2_weigh_103 : decode cX2_weigh 103 = .ok (.iadd, 1) := by decide +kernel
theorem dX2_weigh_104 : decode cX2_weigh 104 = .ok (.putfield 19, 3) := by decide +kernel
theorem dX2_weigh_107 : decode cX2_weigh 107 = .ok (.iload 6, 2) := by decide +kernel
theorem dX2_weigh_109 : decode cX2_weigh 109 = .ok (.aload_n 0, 1) := by decide +kernel
theorem dX2_weigh_110 : decode cX2_weigh 110 = .ok (.getfield 13, 3) := by decide +kernel
theorem dX2_weigh_113 : decode cX2_weigh 113 = .ok (.if_icmp .le 15, 3) := by decide +kernel
theorem dX2_weigh_116 : decode cX2_weigh 116 = .ok (.aload_n 0, 1) := by decide +kernel
theorem dX2_weigh_117 : decode cX2_weigh 117 = .ok (.iload 6, 2) := by decide +kernel
theorem dX2_weigh_119 : decode cX2_weigh 119 = .ok (.putfield 13, 3) := by decide +kernel
theorem dX2_weigh_122 : decode cX2_weigh 122 = .ok (.aload_n 0, 1) := by decide +kernel
theorem dX2_weigh_123 : decode cX2_weigh 123 = .ok (.iload 5, 2) := by decide +kernel
theorem dX2_weigh_125 : decode cX2_weigh 125 = .ok (.putfield 16, 3) := by decide +kernel
theorem dX2_weigh_128 : decode cX2_weigh 128 = .ok (.iinc 5 1, 3) := by decide +kernel
theorem dX2_weigh_131 : decode cX2_weigh 131 = .ok (.goto (-88), 3) := by decide +kernel
theorem dX2_weigh_134 : decode cX2_weigh 134 = .ok (.iconst 1, 1) := by decide +kernel
theorem dX2_weigh_135 : decode cX2_weigh 135 = .ok (.ireturn, 1) := by decide +kernel
theorem dX3_init_0 : decode cX3_init 0 = .ok (.aload_n 0, 1) := by decide +kernel
theorem dX3_init_1 : decode cX3_init 1 = .ok (.invokespecial 3, 3) := by decide +kernel
theorem dX3_init_4 : decode cX3_init 4 = .ok (.aload_n 0, 1) := by decide +kernel
theorem dX3_init_5 : decode cX3_init 5 = .ok (.bipush 6, 2) := by decide +kernel
theorem dX3_init_7 : decode cX3_init 7 = .ok (.anewarray 9, 3) := by decide +kernel
theorem dX3_init_10 : decode cX3_init 10 = .ok (.putfield 11, 3) := by decide +kernel
theorem dX3_init_13 : decode cX3_init 13 = .ok (.aload_n 0, 1) := by decide +kernel
theorem dX3_init_14 : decode cX3_init 14 = .ok (.bipush 6, 2) := by decide +kernel
theorem dX3_init_16 : decode cX3_init 16 = .ok (.newarray .int, 2) := by decide +kernel
theorem dX3_init_18 : decode cX3_init 18 = .ok (.putfield 17, 3) := by decide +kernel
theorem dX3_init_21 : decode cX3_init 21 = .ok (.aload_n 0, 1) := by decide +kernel
theorem dX3_init_22 : decode cX3_init 22 = .ok (.iconst 0, 1) := by decide +kernel
theorem dX3_init_23 : decode cX3_init 23 = .ok (.putfield 21, 3) := by decide +kernel
theorem dX3_init_26 : decode cX3_init 26 = .ok (.aload_n 0, 1) := by decide +kernel
theorem dX3_init_27 : decode cX3_init 27 = .ok (.iconst 0, 1) := by decide +kernel
theorem dX3_init_28 : decode cX3_init 28 = .ok (.putfield 25, 3) := by decide +kernel
theorem dX3_init_31 : decode cX3_init 31 = .ok (.iconst 0, 1) := by decide +kernel
theorem dX3_init_32 : decode cX3_init 32 = .ok (.istore_n 1, 1) := by decide +kernel
theorem dX3_init_33 : decode cX3_init 33 = .ok (.iload_n 1, 1) := by decide +kernel
theorem dX3_init_34 : decode cX3_init 34 = .ok (.bipush 6, 2) := by decide +kernel
theorem dX3_init_36 : decode cX3_init 36 = .ok (.if_icmp .ge 22, 3) := by decide +kernel
theorem dX3_init_39 : decode cX3_init 39 = .ok (.aload_n 0, 1) := by decide +kernel
theorem dX3_init_40 : decode cX3_init 40 = .ok (.getfield 11, 3) := by decide +kernel
theorem dX3_init_43 : decode cX3_init 43 = .ok (.iload_n 1, 1) := by decide +kernel
theorem dX3_init_44 : decode cX3_init 44 = .ok (.new 9, 3) := by decide +kernel
theorem dX3_init_47 : decode cX3_init 47 = .ok (.dup, 1) := by decide +kernel
theorem dX3_init_48 : decode cX3_init 48 = .ok (.invokespecial 28, 3) := by decide +kernel
theorem dX3_init_51 : decode cX3_init 51 = .ok (.aastore, 1) := by decide +kernel
theorem dX3_init_52 : decode cX3_init 52 = .ok (.iinc 1 1, 3) := by decide +kernel
theorem dX3_init_55 : decode cX3_init 55 = .ok (.goto (-22), 3) := by decide +kernel
theorem dX3_init_58 : decode cX3_init 58 = .ok (.return_, 1) := by decide +kernel
theorem dX3_keep_0 : decode cX3_keep 0 = .ok (.aload_n 0, 1) := by decide +kernel
theorem dX3_keep_1 : decode cX3_keep 1 = .ok (.getfield 11, 3) := by decide +kernel
theorem dX3_keep_4 : decode cX3_keep 4 = .ok (.aload_n 0, 1) := by decide +kernel
theorem dX3_keep_5 : decode cX3_keep 5 = .ok (.getfield 21, 3) := by decide +kernel
theorem dX3_keep_8 : decode cX3_keep 8 = .ok (.aaload, 1) := by decide +kernel
theorem dX3_keep_9 : decode cX3_keep 9 = .ok (.aload_n 1, 1) := by decide +kernel
theorem dX3_keep_10 : decode cX3_keep 10 = .ok (.invokevirtual 29, 3) := by decide +kernel
theorem dX3_keep_13 : decode cX3_keep 13 = .ok (.aload_n 0, 1) := by decide +kernel
theorem dX3_keep_14 : decode cX3_keep 14 = .ok (.getfield 17, 3) := by decide +kernel
theorem dX3_keep_17 : decode cX3_keep 17 = .ok (.aload_n 0, 1) := by decide +kernel
theorem dX3_keep_18 : decode cX3_keep 18 = .ok (.getfield 21, 3) := by decide +kernel
theorem dX3_keep_21 : decode cX3_keep 21 = .ok (.iload_n 2, 1) := by decide +kernel
theorem dX3_keep_22 : decode cX3_keep 22 = .ok (.iastore, 1) := by decide +kernel
theorem dX3_keep_23 : decode cX3_keep 23 = .ok (.aload_n 0, 1) := by decide +kernel
theorem dX3_keep_24 : decode cX3_keep 24 = .ok (.aload_n 0, 1) := by decide +kernel
theorem dX3_keep_25 : decode cX3_keep 25 = .ok (.getfield 21, 3) := by decide +kernel
theorem dX3_keep_28 : decode cX3_keep 28 = .ok (.iconst 1, 1) := by decide +kernel
theorem dX3_keep_29 : decode cX3_keep 29 = .ok (.iadd, 1) := by decide +kernel
theorem dX3_keep_30 : decode cX3_keep 30 = .ok (.bipush 6, 2) := by decide +kernel
theorem dX3_keep_32 : decode cX3_keep 32 = .ok (.irem, 1) := by decide +kernel
theorem dX3_keep_33 : decode cX3_keep 33 = .ok (.putfield 21, 3) := by decide +kernel
theorem dX3_keep_36 : decode cX3_keep 36 = .ok (.aload_n 0, 1) := by decide +kernel
theorem dX3_keep_37 : decode cX3_keep 37 = .ok (.aload_n 0, 1) := by decide +kernel
theorem dX3_keep_38 : decode cX3_keep 38 = .ok (.getfield 25, 3) := by decide +kernel
theorem dX3_keep_41 : decode cX3_keep 41 = .ok (.iconst 1, 1) := by decide +kernel
theorem dX3_keep_42 : decode cX3_keep 42 = .ok (.iadd, 1) := by decide +kernel
theorem dX3_keep_43 : decode cX3_keep 43 = .ok (.bipush 6, 2) := by decide +kernel
theorem dX3_keep_45 : decode cX3_keep 45 = .ok (.invokestatic 33, 3) := by decide +kernel
theorem dX3_keep_48 : decode cX3_keep 48 = .ok (.putfield 25, 3) := by decide +kernel
theorem dX3_keep_51 : decode cX3_keep 51 = .ok (.return_, 1) := by decide +kernel
theorem dX3_restoreLatest_0 : decode cX3_restoreLatest 0 = .ok (.aload_n 0, 1) := by decide +kernel
theorem dX3_restoreLatest_1 : decode cX3_restoreLatest 1 = .ok (.getfield 25, 3) := by decide +kernel
theorem dX3_restoreLatest_4 : decode cX3_restoreLatest 4 = .ok (.ifCond .le 55, 3) := by decide +kernel
theorem dX3_restoreLatest_7 : decode cX3_restoreLatest 7 = .ok (.aload_n 0, 1) := by decide +kernel
theorem dX3_restoreLatest_8 : decode cX3_restoreLatest 8 = .ok (.dup, 1) := by decide +kernel
theorem dX3_restoreLatest_9 : decode cX3_restoreLatest 9 = .ok (.getfield 25, 3) := by decide +kernel
theorem dX3_restoreLatest_12 : decode cX3_restoreLatest 12 = .ok (.iconst 1, 1) := by decide +kernel
theorem dX3_restoreLatest_13 : decode cX3_restoreLatest 13 = .ok (.isub, 1) := by decide +kernel
theorem dX3_restoreLatest_14 : decode cX3_restoreLatest 14 = .ok (.putfield 25, 3) := by decide +kernel
theorem dX3_restoreLatest_17 : decode cX3_restoreLatest 17 = .ok (.aload_n 0, 1) := by decide +kernel
theorem dX3_restoreLatest_18 : decode cX3_restoreLatest 18 = .ok (.aload_n 0, 1) := by decide +kernel
theorem dX3_restoreLatest_19 : decode cX3_restoreLatest 19 = .ok (.getfield 21, 3) := by decide +kernel
theorem dX3_restoreLatest_22 : decode cX3_restoreLatest 22 = .ok (.bipush 6, 2) := by decide +kernel
theorem dX3_restoreLatest_24 : decode cX3_restoreLatest 24 = .ok (.iadd, 1) := by decide +kernel
theorem dX3_restoreLatest_25 : decode cX3_restoreLatest 25 = .ok (.iconst 1, 1) := by decide +kernel
theorem dX3_restoreLatest_26 : decode cX3_restoreLatest 26 = .ok (.isub, 1) := by decide +kernel
theorem dX3_restoreLatest_27 : decode cX3_restoreLatest 27 = .ok (.bipush 6, 2) := by decide +kernel
theorem dX3_restoreLatest_29 : decode cX3_restoreLatest 29 = .ok (.irem, 1) := by decide +kernel
theorem dX3_restoreLatest_30 : decode cX3_restoreLatest 30 = .ok (.putfield 21, 3) := by decide +kernel
theorem dX3_restoreLatest_33 : decode cX3_restoreLatest 33 = .ok (.aload_n 1, 1) := by decide +kernel
theorem dX3_restoreLatest_34 : decode cX3_restoreLatest 34 = .ok (.aload_n 0, 1) := by decide +kernel
theorem dX3_restoreLatest_35 : decode cX3_restoreLatest 35 = .ok (.getfield 11, 3) := by decide +kernel
theorem dX3_restoreLatest_38 : decode cX3_restoreLatest 38 = .ok (.aload_n 0, 1) := by decide +kernel
theorem dX3_restoreLatest_39 : decode cX3_restoreLatest 39 = .ok (.getfield 21, 3) := by decide +kernel
theorem dX3_restoreLatest_42 : decode cX3_restoreLatest 42 = .ok (.aaload, 1) := by decide +kernel
theorem dX3_restoreLatest_43 : decode cX3_restoreLatest 43 = .ok (.invokevirtual 29, 3) := by decide +kernel
theorem dX3_restoreLatest_46 : decode cX3_restoreLatest 46 = .ok (.aload_n 2, 1) := by decide +kernel
theorem dX3_restoreLatest_47 : decode cX3_restoreLatest 47 = .ok (.aload_n 0, 1) := by decide +kernel
theorem dX3_restoreLatest_48 : decode cX3_restoreLatest 48 = .ok (.getfield 17, 3) := by decide +kernel
theorem dX3_restoreLatest_51 : decode cX3_restoreLatest 51 = .ok (.aload_n 0, 1) := by decide +kernel
theorem dX3_restoreLatest_52 : decode cX3_restoreLatest 52 = .ok (.getfield 21, 3) := by decide +kernel
theorem dX3_restoreLatest_55 : decode cX3_restoreLatest 55 = .ok (.iaload, 1) := by decide +kernel
theorem dX3_restoreLatest_56 : decode cX3_restoreLatest 56 = .ok (.putfield 39, 3) := by decide +kernel
theorem dX3_restoreLatest_59 : decode cX3_restoreLatest 59 = .ok (.return_, 1) := by decide +kernel
theorem dX4_of_0 : decode cX4_of 0 = .ok (.aload_n 0, 1) := by decide +kernel
theorem dX4_of_1 : decode cX4_of 1 = .ok (.getfield 11, 3) := by decide +kernel
theorem dX4_of_4 : decode cX4_of 4 = .ok (.bipush 100, 2) := by decide +kernel
theorem dX4_of_6 : decode cX4_of 6 = .ok (.imul, 1) := by decide +kernel
theorem dX4_of_7 : decode cX4_of 7 = .ok (.aload_n 0, 1) := by decide +kernel
theorem dX4_of_8 : decode cX4_of 8 = .ok (.getfield 17, 3) := by decide +kernel
theorem dX4_of_11 : decode cX4_of 11 = .ok (.iadd, 1) := by decide +kernel
theorem dX4_of_12 : decode cX4_of 12 = .ok (.bipush 24, 2) := by decide +kernel
theorem dX4_of_14 : decode cX4_of 14 = .ok (.imul, 1) := by decide +kernel
theorem dX4_of_15 : decode cX4_of 15 = .ok (.iload_n 1, 1) := by decide +kernel
theorem dX4_of_16 : decode cX4_of 16 = .ok (.iadd, 1) := by decide +kernel
theorem dX4_of_17 : decode cX4_of 17 = .ok (.bipush 121, 2) := by decide +kernel
theorem dX4_of_19 : decode cX4_of 19 = .ok (.imul, 1) := by decide +kernel
theorem dX4_of_20 : decode cX4_of 20 = .ok (.iload_n 2, 1) := by decide +kernel
theorem dX4_of_21 : decode cX4_of 21 = .ok (.iadd, 1) := by decide +kernel
theorem dX4_of_22 : decode cX4_of 22 = .ok (.ireturn, 1) := by decide +kernel
theorem dX4_scaleOf_0 : decode cX4_scaleOf 0 = .ok (.iload_n 0, 1) := by decide +kernel
theorem dX4_scaleOf_1 : decode cX4_scaleOf 1 = .ok (.bipush 8, 2) := by decide +kernel
theorem dX4_scaleOf_3 : decode cX4_scaleOf 3 = .ok (.idiv, 1) := by decide +kernel
theorem dX4_scaleOf_4 : decode cX4_scaleOf 4 = .ok (.iconst 2, 1) := by decide +kernel
theorem dX4_scaleOf_5 : decode cX4_scaleOf 5 = .ok (.iadd, 1) := by decide +kernel
theorem dX4_scaleOf_6 : decode cX4_scaleOf 6 = .ok (.ireturn, 1) := by decide +kernel
theorem dX4_turnsOf_0 : decode cX4_turnsOf 0 = .ok (.iload_n 0, 1) := by decide +kernel
theorem dX4_turnsOf_1 : decode cX4_turnsOf 1 = .ok (.iconst 2, 1) := by decide +kernel
theorem dX4_turnsOf_2 : decode cX4_turnsOf 2 = .ok (.idiv, 1) := by decide +kernel
theorem dX4_turnsOf_3 : decode cX4_turnsOf 3 = .ok (.iconst 4, 1) := by decide +kernel
theorem dX4_turnsOf_4 : decode cX4_turnsOf 4 = .ok (.irem, 1) := by decide +kernel
theorem dX4_turnsOf_5 : decode cX4_turnsOf 5 = .ok (.ireturn, 1) := by decide +kernel
theorem dX4_flipOf_0 : decode cX4_flipOf 0 = .ok (.iload_n 0, 1) := by decide +kernel
theorem dX4_flipOf_1 : decode cX4_flipOf 1 = .ok (.iconst 2, 1) := by decide +kernel
theorem dX4_flipOf_2 : decode cX4_flipOf 2 = .ok (.irem, 1) := by decide +kernel
theorem dX4_flipOf_3 : decode cX4_flipOf 3 = .ok (.ireturn, 1) := by decide +kernel
theorem dX4_part_0 : decode cX4_part 0 = .ok (.iload_n 0, 1) := by decide +kernel
theorem dX4_part_1 : decode cX4_part 1 = .ok (.bipush 121, 2) := by decide +kernel
theorem dX4_part_3 : decode cX4_part 3 = .ok (.irem, 1) := by decide +kernel
theorem dX4_part_4 : decode cX4_part 4 = .ok (.istore_n 2, 1) := by decide +kernel
theorem dX4_part_5 : decode cX4_part 5 = .ok (.iload_n 0, 1) := by decide +kernel
theorem dX4_part_6 : decode cX4_part 6 = .ok (.bipush 121, 2) := by decide +kernel
theorem dX4_part_8 : decode cX4_part 8 = .ok (.idiv, 1) := by decide +kernel
theorem dX4_part_9 : decode cX4_part 9 = .ok (.bipush 24, 2) := by decide +kernel
theorem dX4_part_11 : decode cX4_part 11 = .ok (.irem, 1) := by decide +kernel
theorem dX4_part_12 : decode cX4_part 12 = .ok (.istore_n 3, 1) := by decide +kernel
theorem dX4_part_13 : decode cX4_part 13 = .ok (.iload_n 0, 1) := by decide +kernel
theorem dX4_part_14 : decode cX4_part 14 = .ok (.sipush 2904, 3) := by decide +kernel
theorem dX4_part_17 : decode cX4_part 17 = .ok (.idiv, 1) := by decide +kernel
theorem dX4_part_18 : decode cX4_part 18 = .ok (.istore 4, 2) := by decide +kernel
theorem dX4_part_20 : decode cX4_part 20 = .ok (.iload_n 1, 1) := by decide +kernel
theorem dX4_part_21 : decode cX4_part 21 = .ok (.tableswitch 70 0 5 #[39, 44, 49, 54, 59, 64], 39) := by decide +kernel
theorem dX4_part_60 : decode cX4_part 60 = .ok (.iload_n 2, 1) := by decide +kernel
theorem dX4_part_61 : decode cX4_part 61 = .ok (.bipush 11, 2) := by decide +kernel
theorem dX4_part_63 : decode cX4_part 63 = .ok (.irem, 1) := by decide +kernel
theorem dX4_part_64 : decode cX4_part 64 = .ok (.ireturn, 1) := by decide +kernel
theorem dX4_part_65 : decode cX4_part 65 = .ok (.iload_n 2, 1) := by decide +kernel
theorem dX4_part_66 : decode cX4_part 66 = .ok (.bipush 11, 2) := by decide +kernel
theorem dX4_part_68 : decode cX4_part 68 = .ok (.idiv, 1) := by decide +kernel
theorem dX4_part_69 : decode cX4_part 69 = .ok (.ireturn, 1) := by decide +kernel
theorem dX4_part_70 : decode cX4_part 70 = .ok (.iload_n 3, 1) := by decide +kernel
theorem dX4_part_71 : decode cX4_part 71 = .ok (.invokestatic 20, 3) := by decide +kernel
theorem dX4_part_74 : decode cX4_part 74 = .ok (.ireturn, 1) := by decide +kernel
theorem dX4_part_75 : decode cX4_part 75 = .ok (.iload_n 3, 1) := by decide +kernel
theorem dX4_part_76 : decode cX4_part 76 = .ok (.invokestatic 24, 3) := by decide +kernel
theorem dX4_part_79 : decode cX4_part 79 = .ok (.ireturn, 1) := by decide +kernel
theorem dX4_part_80 : decode cX4_part 80 = .ok (.iload_n 3, 1) := by decide +kernel
theorem dX4_part_81 : decode cX4_part 81 = .ok (.invokestatic 27, 3) := by decide +kernel
theorem dX4_part_84 : decode cX4_part 84 = .ok (.ireturn, 1) := by decide +kernel
theorem dX4_part_85 : decode cX4_part 85 = .ok (.iload 4, 2) := by decide +kernel
theorem dX4_part_87 : decode cX4_part 87 = .ok (.bipush 100, 2) := by decide +kernel
theorem dX4_part_89 : decode cX4_part 89 = .ok (.idiv, 1) := by decide +kernel
theorem dX4_part_90 : decode cX4_part 90 = .ok (.ireturn, 1) := by decide +kernel
theorem dX4_part_91 : decode cX4_part 91 = .ok (.iload 4, 2) := by decide +kernel
theorem dX4_part_93 : decode cX4_part 93 = .ok (.bipush 100, 2) := by decide +kernel
theorem dX4_part_95 : decode cX4_part 95 = .ok (.irem, 1) := by decide +kernel
theorem dX4_part_96 : decode cX4_part 96 = .ok (.ireturn, 1) := by decide +kernel
theorem dX5_init_0 : decode cX5_init 0 = .ok (.aload_n 0, 1) := by decide +kernel
theorem dX5_init_1 : decode cX5_init 1 = .ok (.invokespecial 3, 3) := by decide +kernel
theorem dX5_init_4 : decode cX5_init 4 = .ok (.aload_n 0, 1) := by decide +kernel
theorem dX5_init_5 : decode cX5_init 5 = .ok (.new 9, 3) := by decide +kernel
theorem dX5_init_8 : decode cX5_init 8 = .ok (.dup, 1) := by decide +kernel
theorem dX5_init_9 : decode cX5_init 9 = .ok (.invokespecial 11, 3) := by decide +kernel
theorem dX5_init_12 : decode cX5_init 12 = .ok (.putfield 12, 3) := by decide +kernel
theorem dX5_init_15 : decode cX5_init 15 = .ok (.aload_n 0, 1) := by decide +kernel
theorem dX5_init_16 : decode cX5_init 16 = .ok (.new 18, 3) := by decide +kernel
theorem dX5_init_19 : decode cX5_init 19 = .ok (.dup, 1) := by decide +kernel
theorem dX5_init_20 : decode cX5_init 20 = .ok (.invokespecial 20, 3) := by decide +kernel
theorem dX5_init_23 : decode cX5_init 23 = .ok (.putfield 21, 3) := by decide +kernel
theorem dX5_init_26 : decode cX5_init 26 = .ok (.aload_n 0, 1) := by decide +kernel
theorem dX5_init_27 : decode cX5_init 27 = .ok (.bipush 10, 2) := by decide +kernel
theorem dX5_init_29 : decode cX5_init 29 = .ok (.newarray .int, 2) := by decide +kernel
theorem dX5_init_31 : decode cX5_init 31 = .ok (.putfield 25, 3) := by decide +kernel
theorem dX5_init_34 : decode cX5_init 34 = .ok (.aload_n 0, 1) := by decide +kernel
theorem dX5_init_35 : decode cX5_init 35 = .ok (.iconst 0, 1) := by decide +kernel
theorem dX5_init_36 : decode cX5_init 36 = .ok (.putfield 29, 3) := by decide +kernel
theorem dX5_init_39 : decode cX5_init 39 = .ok (.aload_n 0, 1) := by decide +kernel
theorem dX5_init_40 : decode cX5_init 40 = .ok (.bipush 121, 2) := by decide +kernel
theorem dX5_init_42 : decode cX5_init 42 = .ok (.newarray .int, 2) := by decide +kernel
theorem dX5_init_44 : decode cX5_init 44 = .ok (.putfield 35, 3) := by decide +kernel
theorem dX5_init_47 : decode cX5_init 47 = .ok (.aload_n 0, 1) := by decide +kernel
theorem dX5_init_48 : decode cX5_init 48 = .ok (.bipush 121, 2) := by decide +kernel
theorem dX5_init_50 : decode cX5_init 50 = .ok (.newarray .boolean, 2) := by decide +kernel
theorem dX5_init_52 : decode cX5_init 52 = .ok (.putfield 38, 3) := by decide +kernel
theorem dX5_init_55 : decode cX5_init 55 = .ok (.aload_n 0, 1) := by decide +kernel
theorem dX5_init_56 : decode cX5_init 56 = .ok (.bipush 10, 2) := by decide +kernel
theorem dX5_init_58 : decode cX5_init 58 = .ok (.newarray .int, 2) := by decide +kernel
theorem dX5_init_60 : decode cX5_init 60 = .ok (.putfield 42, 3) := by decide +kernel
theorem dX5_init_63 : decode cX5_init 63 = .ok (.aload_n 0, 1) := by decide +kernel
theorem dX5_init_64 : decode cX5_init 64 = .ok (.iconst 0, 1) := by decide +kernel
theorem dX5_init_65 : decode cX5_init 65 = .ok (.putfield 45, 3) := by decide +kernel
theorem dX5_init_68 : decode cX5_init 68 = .ok (.aload_n 0, 1) := by decide +kernel
theorem dX5_init_69 : decode cX5_init 69 = .ok (.iconst 0, 1) := by decide +kernel
theorem dX5_init_70 : decode cX5_init 70 = .ok (.putfield 48, 3) := by decide +kernel
theorem dX5_init_73 : decode cX5_init 73 = .ok (.return_, 1) := by decide +kernel
theorem dX5_seek_0 : decode cX5_seek 0 = .ok (.aload_n 0, 1) := by decide +kernel
theorem dX5_seek_1 : decode cX5_seek 1 = .ok (.iconst 0, 1) := by decide +kernel
theorem dX5_seek_2 : decode cX5_seek 2 = .ok (.putfield 29, 3) := by decide +kernel
theorem dX5_seek_5 : decode cX5_seek 5 = .ok (.aload_n 0, 1) := by decide +kernel
theorem dX5_seek_6 : decode cX5_seek 6 = .ok (.iconst 0, 1) := by decide +kernel
theorem dX5_seek_7 : decode cX5_seek 7 = .ok (.putfield 48, 3) := by decide +kernel
theorem dX5_seek_10 : decode cX5_seek 10 = .ok (.iconst 0, 1) := by decide +kernel
theorem dX5_seek_11 : decode cX5_seek 11 = .ok (.istore_n 3, 1) := by decide +kernel
theorem dX5_seek_12 : decode cX5_seek 12 = .ok (.iload_n 3, 1) := by decide +kernel
theorem dX5_seek_13 : decode cX5_seek 13 = .ok (.aload_n 0, 1) := by decide +kernel
theorem dX5_seek_14 : decode cX5_seek 14 = .ok (.getfield 35, 3) := by decide +kernel
theorem dX5_seek_17 : decode cX5_seek 17 = .ok (.arraylength, 1) := by decide +kernel
theorem dX5_seek_18 : decode cX5_seek 18 = .ok (.if_icmp .ge 17, 3) := by decide +kernel
theorem dX5_seek_21 : decode cX5_seek 21 = .ok (.aload_n 0, 1) := by decide +kernel
theorem dX5_seek_22 : decode cX5_seek 22 = .ok (.getfield 35, 3) := by decide +kernel
theorem dX5_seek_25 : decode cX5_seek 25 = .ok (.iload_n 3, 1) := by decide +kernel
theorem dX5_seek_26 : decode cX5_seek 26 = .ok (.ldc 51, 2) := by decide +kernel
theorem dX5_seek_28 : decode cX5_seek 28 = .ok (.iastore, 1) := by decide +kernel
theorem dX5_seek_29 : decode cX5_seek 29 = .ok (.iinc 3 1, 3) := by decide +kernel
theorem dX5_seek_32 : decode cX5_seek 32 = .ok (.goto (-20), 3) := by decide +kernel
theorem dX5_seek_35 : decode cX5_seek 35 = .ok (.iconst 0, 1) := by decide +kernel
theorem dX5_seek_36 : decode cX5_seek 36 = .ok (.istore_n 3, 1) := by decide +kernel
theorem dX5_seek_37 : decode cX5_seek 37 = .ok (.iload_n 3, 1) := by decide +kernel
theorem dX5_seek_38 : decode cX5_seek 38 = .ok (.bipush 24, 2) := by decide +kernel
theorem dX5_seek_40 : decode cX5_seek 40 = .ok (.if_icmp .ge 110, 3) := by decide +kernel
theorem dX5_seek_43 : decode cX5_seek 43 = .ok (.aload_n 0, 1) := by decide +kernel
theorem dX5_seek_44 : decode cX5_seek 44 = .ok (.getfield 12, 3) := by decide +kernel
theorem dX5_seek_47 : decode cX5_seek 47 = .ok (.aload_n 1, 1) := by decide +kernel
theorem dX5_seek_48 : decode cX5_seek 48 = .ok (.iload_n 3, 1) := by decide +kernel
theorem dX5_seek_49 : decode cX5_seek 49 = .ok (.invokestatic 52, 3) := by decide +kernel
theorem dX5_seek_52 : decode cX5_seek 52 = .ok (.iload_n 3, 1) := by decide +kernel
theorem dX5_seek_53 : decode cX5_seek 53 = .ok (.invokestatic 56, 3) := by decide +kernel
theorem dX5_seek_56 : decode cX5_seek 56 = .ok (.iload_n 3, 1) := by decide +kernel
theorem dX5_seek_57 : decode cX5_seek 57 = .ok (.invokestatic 59, 3) := by decide +kernel
theorem dX5_seek_60 : decode cX5_seek 60 = .ok (.invokevirtual 62, 3) := by decide +kernel
theorem dX5_seek_63 : decode cX5_seek 63 = .ok (.iconst 0, 1) := by decide +kernel
theorem dX5_seek_64 : decode cX5_seek 64 = .ok (.istore 4, 2) := by decide +kernel
theorem dX5_seek_66 : decode cX5_seek 66 = .ok (.iload 4, 2) := by decide +kernel
theorem dX5_seek_68 : decode cX5_seek 68 = .ok (.aload_n 1, 1) := by decide +kernel
theorem dX5_seek_69 : decode cX5_seek 69 = .ok (.getfield 66, 3) := by decide +kernel
theorem dX5_seek_72 : decode cX5_seek 72 = .ok (.if_icmp .ge 72, 3) := by decide +kernel
theorem dX5_seek_75 : decode cX5_seek 75 = .ok (.iconst 0, 1) := by decide +kernel
theorem dX5_seek_76 : decode cX5_seek 76 = .ok (.istore 5, 2) := by decide +kernel
theorem dX5_seek_78 : decode cX5_seek 78 = .ok (.iload 5, 2) := by decide +kernel
theorem dX5_seek_80 : decode cX5_seek 80 = .ok (.aload_n 1, 1) := by decide +kernel
theorem dX5_seek_81 : decode cX5_seek 81 = .ok (.getfield 71, 3) := by decide +kernel
theorem dX5_seek_84 : decode cX5_seek 84 = .ok (.if_icmp .ge 54, 3) := by decide +kernel
theorem dX5_seek_87 : decode cX5_seek 87 = .ok (.aload_n 0, 1) := by decide +kernel
theorem dX5_seek_88 : decode cX5_seek 88 = .ok (.getfield 21, 3) := by decide +kernel
theorem dX5_seek_91 : decode cX5_seek 91 = .ok (.aload_n 2, 1) := by decide +kernel
theorem dX5_seek_92 : decode cX5_seek 92 = .ok (.aload_n 0, 1) := by decide +kernel
theorem dX5_seek_93 : decode cX5_seek 93 = .ok (.getfield 12, 3) := by decide +kernel
theorem dX5_seek_96 : decode cX5_seek 96 = .ok (.iload 5, 2) := by decide +kernel
theorem dX5_seek_98 : decode cX5_seek 98 = .ok (.iload 4, 2) := by decide +kernel
theorem dX5_seek_100 : decode cX5_seek 100 = .ok (.invokevirtual 74, 3) := by decide +kernel
theorem dX5_seek_103 : decode cX5_seek 103 = .ok (.ifCond .eq 29, 3) := by decide +kernel
theorem dX5_seek_106 : decode cX5_seek 106 = .ok (.iload 4, 2) := by decide +kernel
theorem dX5_seek_108 : decode cX5_seek 108 = .ok (.bipush 11, 2) := by decide +kernel
theorem dX5_seek_110 : decode cX5_seek 110 = .ok (.imul, 1) := by decide +kernel
theorem dX5_seek_111 : decode cX5_seek 111 = .ok (.iload 5, 2) := by decide +kernel
theorem dX5_seek_113 : decode cX5_seek 113 = .ok (.iadd, 1) := by decide +kernel
theorem dX5_seek_114 : decode cX5_seek 114 = .ok (.istore 6, 2) := by decide +kernel
theorem dX5_seek_116 : decode cX5_seek 116 = .ok (.aload_n 0, 1) := by decide +kernel
theorem dX5_seek_117 : decode cX5_seek 117 = .ok (.aload_n 0, 1) := by decide +kernel
theorem dX5_seek_118 : decode cX5_seek 118 = .ok (.getfield 21, 3) := by decide +kernel
theorem dX5_seek_121 : decode cX5_seek 121 = .ok (.iload_n 3, 1) := by decide +kernel
theorem dX5_seek_122 : decode cX5_seek 122 = .ok (.iload 6, 2) := by decide +kernel
theorem dX5_seek_124 : decode cX5_seek 124 = .ok (.invokestatic 78, 3) := by decide +kernel
theorem dX5_seek_127 : decode cX5_seek 127 = .ok (.iload 6, 2) := by decide +kernel
theorem dX5_seek_129 : decode cX5_seek 129 = .ok (.invokevirtual 82, 3) := by decide +kernel
theorem dX5_seek_132 : decode cX5_seek 132 = .ok (.iinc 5 1, 3) := by decide +kernel
theorem dX5_seek_135 : decode cX5_seek 135 = .ok (.goto (-57), 3) := by decide +kernel
theorem dX5_seek_138 : decode cX5_seek 138 = .ok (.iinc 4 1, 3) := by decide +kernel
theorem dX5_seek_141 : decode cX5_seek 141 = .ok (.goto (-75), 3) := by decide +kernel
theorem dX5_seek_144 : decode cX5_seek 144 = .ok (.iinc 3 1, 3) := by decide +kernel
theorem dX5_seek_147 : decode cX5_seek 147 = .ok (.goto (-110), 3) := by decide +kernel
theorem dX5_seek_150 : decode cX5_seek 150 = .ok (.return_, 1) := by decide +kernel
theorem dX5_enter_0 : decode cX5_enter 0 = .ok (.aload_n 0, 1) := by decide +kernel
theorem dX5_enter_1 : decode cX5_enter 1 = .ok (.getfield 35, 3) := by decide +kernel
theorem dX5_enter_4 : decode cX5_enter 4 = .ok (.iload_n 2, 1) := by decide +kernel
theorem dX5_enter_5 : decode cX5_enter 5 = .ok (.aload_n 0, 1) := by decide +kernel
theorem dX5_enter_6 : decode cX5_enter 6 = .ok (.getfield 35, 3) := by decide +kernel
theorem dX5_enter_9 : decode cX5_enter 9 = .ok (.iload_n 2, 1) := by decide +kernel
theorem dX5_enter_10 : decode cX5_enter 10 = .ok (.iaload, 1) := by decide +kernel
theorem dX5_enter_11 : decode cX5_enter 11 = .ok (.iload_n 1, 1) := by decide +kernel
theorem dX5_enter_12 : decode cX5_enter 12 = .ok (.invokestatic 86, 3) := by decide +kernel
theorem dX5_enter_15 : decode cX5_enter 15 = .ok (.iastore, 1) := by decide +kernel
theorem dX5_enter_16 : decode cX5_enter 16 = .ok (.aload_n 0, 1) := by decide +kernel
theorem dX5_enter_17 : decode cX5_enter 17 = .ok (.getfield 29, 3) := by decide +kernel
theorem dX5_enter_20 : decode cX5_enter 20 = .ok (.bipush 10, 2) := by decide +kernel
theorem dX5_enter_22 : decode cX5_enter 22 = .ok (.if_icmp .ne 15, 3) := by decide +kernel
theorem dX5_enter_25 : decode cX5_enter 25 = .ok (.iload_n 1, 1) := by decide +kernel
theorem dX5_enter_26 : decode cX5_enter 26 = .ok (.aload_n 0, 1) := by decide +kernel
theorem dX5_enter_27 : decode cX5_enter 27 = .ok (.getfield 25, 3) := by decide +kernel
theorem dX5_enter_30 : decode cX5_enter 30 = .ok (.bipush 9, 2) := by decide +kernel
theorem dX5_enter_32 : decode cX5_enter 32 = .ok (.iaload, 1) := by decide +kernel
theorem dX5_enter_33 : decode cX5_enter 33 = .ok (.if_icmp .le 4, 3) := by decide +kernel
theorem dX5_enter_36 : decode cX5_enter 36 = .ok (.return_, 1) := by decide +kernel
theorem dX5_enter_37 : decode cX5_enter 37 = .ok (.aload_n 0, 1) := by decide +kernel
theorem dX5_enter_38 : decode cX5_enter 38 = .ok (.getfield 29, 3) := by decide +kernel
theorem dX5_enter_41 : decode cX5_enter 41 = .ok (.bipush 9, 2) := by decide +kernel
theorem dX5_enter_43 : decode cX5_enter 43 = .ok (.invokestatic 86, 3) := by decide +kernel
theorem dX5_enter_46 : decode cX5_enter 46 = .ok (.istore_n 3, 1) := by decide +kernel
theorem dX5_enter_47 : decode cX5_enter 47 = .ok (.iload_n 3, 1) := by decide +kernel
theorem dX5_enter_48 : decode cX5_enter 48 = .ok (.ifCond .le 35, 3) := by decide +kernel
theorem dX5_enter_51 : decode cX5_enter 51 = .ok (.aload_n 0, 1) := by decide +kernel
theorem dX5_enter_52 : decode cX5_enter 52 = .ok (.getfield 25, 3) := by decide +kernel
theorem dX5_enter_55 : decode cX5_enter 55 = .ok (.iload_n 3, 1) := by decide +kernel
theorem dX5_enter_56 : decode cX5_enter 56 = .ok (.iconst 1, 1) := by decide +kernel
theorem dX5_enter_57 : decode cX5_enter 57 = .ok (.isub, 1) := by decide +kernel
theorem dX5_enter_58 : decode cX5_enter 58 = .ok (.iaload, 1) := by decide +kernel
theorem dX5_enter_59 : decode cX5_enter 59 = .ok (.iload_n 1, 1) := by decide +kernel
theorem dX5_enter_60 : decode cX5_enter 60 = .ok (.if_icmp .le 23, 3) := by decide +kernel
theorem dX5_enter_63 : decode cX5_enter 63 = .ok (.aload_n 0, 1) := by decide +kernel
theorem dX5_enter_64 : decode cX5_enter 64 = .ok (.getfield 25, 3) := by decide +kernel
theorem dX5_enter_67 : decode cX5_enter 67 = .ok (.iload_n 3, 1) := by decide +kernel
theorem dX5_enter_68 : decode cX5_enter 68 = .ok (.aload_n 0, 1) := by decide +kernel
theorem dX5_enter_69 : decode cX5_enter 69 = .ok (.getfield 25, 3) := by decide +kernel
theorem dX5_enter_72 : decode cX5_enter 72 = .ok (.iload_n 3, 1) := by decide +kernel
theorem dX5_enter_73 : decode cX5_enter 73 = .ok (.iconst 1, 1) := by decide +kernel
theorem dX5_enter_74 : decode cX5_enter 74 = .ok (.isub, 1) := by decide +kernel
theorem dX5_enter_75 : decode cX5_enter 75 = .ok (.iaload, 1) := by decide +kernel
theorem dX5_enter_76 : decode cX5_enter 76 = .ok (.iastore, 1) := by decide +kernel
theorem dX5_enter_77 : decode cX5_enter 77 = .ok (.iinc 3 (-1), 3) := by decide +kernel
theorem dX5_enter_80 : decode cX5_enter 80 = .ok (.goto (-33), 3) := by decide +kernel
theorem dX5_enter_83 : decode cX5_enter 83 = .ok (.aload_n 0, 1) := by decide +kernel
theorem dX5_enter_84 : decode cX5_enter 84 = .ok (.getfield 25, 3) := by decide +kernel
theorem dX5_enter_87 : decode cX5_enter 87 = .ok (.iload_n 3, 1) := by decide +kernel
theorem dX5_enter_88 : decode cX5_enter 88 = .ok (.iload_n 1, 1) := by decide +kernel
theorem dX5_enter_89 : decode cX5_enter 89 = .ok (.iastore, 1) := by decide +kernel
theorem dX5_enter_90 : decode cX5_enter 90 = .ok (.aload_n 0, 1) := by decide +kernel
theorem dX5_enter_91 : decode cX5_enter 91 = .ok (.aload_n 0, 1) := by decide +kernel
theorem dX5_enter_92 : decode cX5_enter 92 = .ok (.getfield 29, 3) := by decide +kernel
theorem dX5_enter_95 : decode cX5_enter 95 = .ok (.iconst 1, 1) := by decide +kernel
theorem dX5_enter_96 : decode cX5_enter 96 = .ok (.iadd, 1) := by decide +kernel
theorem dX5_enter_97 : decode cX5_enter 97 = .ok (.bipush 10, 2) := by decide +kernel
theorem dX5_enter_99 : decode cX5_enter 99 = .ok (.invokestatic 86, 3) := by decide +kernel
theorem dX5_enter_102 : decode cX5_enter 102 = .ok (.putfield 29, 3) := by decide +kernel
theorem dX5_enter_105 : decode cX5_enter 105 = .ok (.return_, 1) := by decide +kernel
theorem dX5_chooseApart_0 : decode cX5_chooseApart 0 = .ok (.aload_n 0, 1) := by decide +kernel
theorem dX5_chooseApart_1 : decode cX5_chooseApart 1 = .ok (.getfield 48, 3) := by decide +kernel
theorem dX5_chooseApart_4 : decode cX5_chooseApart 4 = .ok (.iload_n 1, 1) := by decide +kernel
theorem dX5_chooseApart_5 : decode cX5_chooseApart 5 = .ok (.if_icmp .ne 4, 3) := by decide +kernel
theorem dX5_chooseApart_8 : decode cX5_chooseApart 8 = .ok (.return_, 1) := by decide +kernel
theorem dX5_chooseApart_9 : decode cX5_chooseApart 9 = .ok (.aload_n 0, 1) := by decide +kernel
theorem dX5_chooseApart_10 : decode cX5_chooseApart 10 = .ok (.iload_n 1, 1) := by decide +kernel
theorem dX5_chooseApart_11 : decode cX5_chooseApart 11 = .ok (.putfield 48, 3) := by decide +kernel
theorem dX5_chooseApart_14 : decode cX5_chooseApart 14 = .ok (.aload_n 0, 1) := by decide +kernel
theorem dX5_chooseApart_15 : decode cX5_chooseApart 15 = .ok (.iconst 0, 1) := by decide +kernel
theorem dX5_chooseApart_16 : decode cX5_chooseApart 16 = .ok (.putfield 45, 3) := by decide +kernel
theorem dX5_chooseApart_19 : decode cX5_chooseApart 19 = .ok (.iconst 0, 1) := by decide +kernel
theorem dX5_chooseApart_20 : decode cX5_chooseApart 20 = .ok (.istore_n 2, 1) := by decide +kernel
theorem dX5_chooseApart_21 : decode cX5_chooseApart 21 = .ok (.iload_n 2, 1) := by decide +kernel
theorem dX5_chooseApart_22 : decode cX5_chooseApart 22 = .ok (.aload_n 0, 1) := by decide +kernel
theorem dX5_chooseApart_23 : decode cX5_chooseApart 23 = .ok (.getfield 38, 3) := by decide +kernel
theorem dX5_chooseApart_26 : decode cX5_chooseApart 26 = .ok (.arraylength, 1) := by decide +kernel
theorem dX5_chooseApart_27 : decode cX5_chooseApart 27 = .ok (.if_icmp .ge 16, 3) := by decide +kernel
theorem dX5_chooseApart_30 : decode cX5_chooseApart 30 = .ok (.aload_n 0, 1) := by decide +kernel
theorem dX5_chooseApart_31 : decode cX5_chooseApart 31 = .ok (.getfield 38, 3) := by decide +kernel
theorem dX5_chooseApart_34 : decode cX5_chooseApart 34 = .ok (.iload_n 2, 1) := by decide +kernel
theorem dX5_chooseApart_35 : decode cX5_chooseApart 35 = .ok (.iconst 1, 1) := by decide +kernel
theorem dX5_chooseApart_36 : decode cX5_chooseApart 36 = .ok (.bastore, 1) := by decide +kernel
theorem dX5_chooseApart_37 : decode cX5_chooseApart 37 = .ok (.iinc 2 1, 3) := by decide +kernel
theorem dX5_chooseApart_40 : decode cX5_chooseApart 40 = .ok (.goto (-19), 3) := by decide +kernel
theorem dX5_chooseApart_43 : decode cX5_chooseApart 43 = .ok (.iconst 0, 1) := by decide +kernel
theorem dX5_chooseApart_44 : decode cX5_chooseApart 44 = .ok (.istore_n 2, 1) := by decide +kernel
theorem dX5_chooseApart_45 : decode cX5_chooseApart 45 = .ok (.iload_n 2, 1) := by decide +kernel
theorem dX5_chooseApart_46 : decode cX5_chooseApart 46 = .ok (.bipush 10, 2) := by decide +kernel
theorem dX5_chooseApart_48 : decode cX5_chooseApart 48 = .ok (.if_icmp .ge 53, 3) := by decide +kernel
theorem dX5_chooseApart_51 : decode cX5_chooseApart 51 = .ok (.aload_n 0, 1) := by decide +kernel
theorem dX5_chooseApart_52 : decode cX5_chooseApart 52 = .ok (.invokevirtual 92, 3) := by decide +kernel
theorem dX5_chooseApart_55 : decode cX5_chooseApart 55 = .ok (.istore_n 3, 1) := by decide +kernel
theorem dX5_chooseApart_56 : decode cX5_chooseApart 56 = .ok (.iload_n 3, 1) := by decide +kernel
theorem dX5_chooseApart_57 : decode cX5_chooseApart 57 = .ok (.ldc 51, 2) := by decide +kernel
theorem dX5_chooseApart_59 : decode cX5_chooseApart 59 = .ok (.if_icmp .ne 4, 3) := by decide +kernel
theorem dX5_chooseApart_62 : decode cX5_chooseApart 62 = .ok (.return_, 1) := by decide +kernel
theorem dX5_chooseApart_63 : decode cX5_chooseApart 63 = .ok (.aload_n 0, 1) := by decide +kernel
theorem dX5_chooseApart_64 : decode cX5_chooseApart 64 = .ok (.getfield 42, 3) := by decide +kernel
theorem dX5_chooseApart_67 : decode cX5_chooseApart 67 = .ok (.iload_n 2, 1) := by decide +kernel
theorem dX5_chooseApart_68 : decode cX5_chooseApart 68 = .ok (.iload_n 3, 1) := by decide +kernel
theorem dX5_chooseApart_69 : decode cX5_chooseApart 69 = .ok (.iastore, 1) := by decide +kernel
theorem dX5_chooseApart_70 : decode cX5_chooseApart 70 = .ok (.aload_n 0, 1) := by decide +kernel
theorem dX5_chooseApart_71 : decode cX5_chooseApart 71 = .ok (.dup, 1) := by decide +kernel
theorem dX5_chooseApart_72 : decode cX5_chooseApart 72 = .ok (.getfield 45, 3) := by decide +kernel
theorem dX5_chooseApart_75 : decode cX5_chooseApart 75 = .ok (.iconst 1, 1) := by decide +kernel
theorem dX5_chooseApart_76 : decode cX5_chooseApart 76 = .ok (.iadd, 1) := by decide +kernel
theorem dX5_chooseApart_77 : decode cX5_chooseApart 77 = .ok (.putfield 45, 3) := by decide +kernel
theorem dX5_chooseApart_80 : decode cX5_chooseApart 80 = .ok (.aload_n 0, 1) := by decide +kernel
theorem dX5_chooseApart_81 : decode cX5_chooseApart 81 = .ok (.iload_n 3, 1) := by decide +kernel
theorem dX5_chooseApart_82 : decode cX5_chooseApart 82 = .ok (.iconst 0, 1) := by decide +kernel
theorem dX5_chooseApart_83 : decode cX5_chooseApart 83 = .ok (.invokestatic 96, 3) := by decide +kernel
theorem dX5_chooseApart_86 : decode cX5_chooseApart 86 = .ok (.iload_n 3, 1) := by decide +kernel
theorem dX5_chooseApart_87 : decode cX5_chooseApart 87 = .ok (.iconst 1, 1) := by decide +kernel
theorem dX5_chooseApart_88 : decode cX5_chooseApart 88 = .ok (.invokestatic 96, 3) := by decide +kernel
theorem dX5_chooseApart_91 : decode cX5_chooseApart 91 = .ok (.iload_n 1, 1) := by decide +kernel
theorem dX5_chooseApart_92 : decode cX5_chooseApart 92 = .ok (.invokevirtual 99, 3) := by decide +kernel
theorem dX5_chooseApart_95 : decode cX5_chooseApart 95 = .ok (.iinc 2 1, 3) := by decide +kernel
theorem dX5_chooseApart_98 : decode cX5_chooseApart 98 = .ok (.goto (-53), 3) := by decide +kernel
theorem dX5_chooseApart_101 : decode cX5_chooseApart 101 = .ok (.return_, 1) := by decide +kernel
theorem dX5_firstOpen_0 : decode cX5_firstOpen 0 = .ok (.ldc 51, 2) := by decide +kernel
theorem dX5_firstOpen_2 : decode cX5_firstOpen 2 = .ok (.istore_n 1, 1) := by decide +kernel
theorem dX5_firstOpen_3 : decode cX5_firstOpen 3 = .ok (.iconst 0, 1) := by decide +kernel
theorem dX5_firstOpen_4 : decode cX5_firstOpen 4 = .ok (.istore_n 2, 1) := by decide +kernel
theorem dX5_firstOpen_5 : decode cX5_firstOpen 5 = .ok (.iload_n 2, 1) := by decide +kernel
theorem dX5_firstOpen_6 : decode cX5_firstOpen 6 = .ok (.aload_n 0, 1) := by decide +kernel
theorem dX5_firstOpen_7 : decode cX5_firstOpen 7 = .ok (.getfield 38, 3) := by decide +kernel
theorem dX5_firstOpen_10 : decode cX5_firstOpen 10 = .ok (.arraylength, 1) := by decide +kernel
theorem dX5_firstOpen_11 : decode cX5_firstOpen 11 = .ok (.if_icmp .ge 29, 3) := by decide +kernel
theorem dX5_firstOpen_14 : decode cX5_firstOpen 14 = .ok (.aload_n 0, 1) := by decide +kernel
theorem dX5_firstOpen_15 : decode cX5_firstOpen 15 = .ok (.getfield 38, 3) := by decide +kernel
theorem dX5_firstOpen_18 : decode cX5_firstOpen 18 = .ok (.iload_n 2, 1) := by decide +kernel
theorem dX5_firstOpen_19 : decode cX5_firstOpen 19 = .ok (.baload, 1) := by decide +kernel
theorem dX5_firstOpen_20 : decode cX5_firstOpen 20 = .ok (.ifCond .eq 14, 3) := by decide +kernel
theorem dX5_firstOpen_23 : decode cX5_firstOpen 23 = .ok (.iload_n 1, 1) := by decide +kernel
theorem dX5_firstOpen_24 : decode cX5_firstOpen 24 = .ok (.aload_n 0, 1) := by decide +kernel
theorem dX5_firstOpen_25 : decode cX5_firstOpen 25 = .ok (.getfield 35, 3) := by decide +kernel
theorem dX5_firstOpen_28 : decode cX5_firstOpen 28 = .ok (.iload_n 2, 1) := by decide +kernel
theorem dX5_firstOpen_29 : decode cX5_firstOpen 29 = .ok (.iaload, 1) := by decide +kernel
theorem dX5_firstOpen_30 : decode cX5_firstOpen 30 = .ok (.invokestatic 86, 3) := by decide +kernel
theorem dX5_firstOpen_33 : decode cX5_firstOpen 33 = .ok (.istore_n 1, 1) := by decide +kernel
theorem dX5_firstOpen_34 : decode cX5_firstOpen 34 = .ok (.iinc 2 1, 3) := by decide +kernel
theorem dX5_firstOpen_37 : decode cX5_firstOpen 37 = .ok (.goto (-32), 3) := by decide +kernel
theorem dX5_firstOpen_40 : decode cX5_firstOpen 40 = .ok (.iload_n 1, 1) := by decide +kernel
theorem dX5_firstOpen_41 : decode cX5_firstOpen 41 = .ok (.ireturn, 1) := by decide +kernel
theorem dX5_closeAround_0 : decode cX5_closeAround 0 = .ok (.iconst 0, 1) := by decide +kernel
theorem dX5_closeAround_1 : decode cX5_closeAround 1 = .ok (.istore 4, 2) := by decide +kernel
theorem dX5_closeAround_3 : decode cX5_closeAround 3 = .ok (.iload 4, 2) := by decide +kernel
theorem dX5_closeAround_5 : decode cX5_closeAround 5 = .ok (.aload_n 0, 1) := by decide +kernel
theorem dX5_closeAround_6 : decode cX5_closeAround 6 = .ok (.getfield 38, 3) := by decide +kernel
theorem dX5_closeAround_9 : decode cX5_closeAround 9 = .ok (.arraylength, 1) := by decide +kernel
theorem dX5_closeAround_10 : decode cX5_closeAround 10 = .ok (.if_icmp .ge 50, 3) := by decide +kernel
theorem dX5_closeAround_13 : decode cX5_closeAround 13 = .ok (.iload 4, 2) := by decide +kernel
theorem dX5_closeAround_15 : decode cX5_closeAround 15 = .ok (.bipush 11, 2) := by decide +kernel
theorem dX5_closeAround_17 : decode cX5_closeAround 17 = .ok (.irem, 1) := by decide +kernel
theorem dX5_closeAround_18 : decode cX5_closeAround 18 = .ok (.iload_n 1, 1) := by decide +kernel
theorem dX5_closeAround_19 : decode cX5_closeAround 19 = .ok (.isub, 1) := by decide +kernel
theorem dX5_closeAround_20 : decode cX5_closeAround 20 = .ok (.invokestatic 103, 3) := by decide +kernel
theorem dX5_closeAround_23 : decode cX5_closeAround 23 = .ok (.istore 5, 2) := by decide +kernel
theorem dX5_closeAround_25 : decode cX5_closeAround 25 = .ok (.iload 4, 2) := by decide +kernel
theorem dX5_closeAround_27 : decode cX5_closeAround 27 = .ok (.bipush 11, 2) := by decide +kernel
theorem dX5_closeAround_29 : decode cX5_closeAround 29 = .ok (.idiv, 1) := by decide +kernel
theorem dX5_closeAround_30 : decode cX5_closeAround 30 = .ok (.iload_n 2, 1) := by decide +kernel
theorem dX5_closeAround_31 : decode cX5_closeAround 31 = .ok (.isub, 1) := by decide +kernel
theorem dX5_closeAround_32 : decode cX5_closeAround 32 = .ok (.invokestatic 103, 3) := by decide +kernel
theorem dX5_closeAround_35 : decode cX5_closeAround 35 = .ok (.istore 6, 2) := by decide +kernel
theorem dX5_closeAround_37 : decode cX5_closeAround 37 = .ok (.iload 5, 2) := by decide +kernel
theorem dX5_closeAround_39 : decode cX5_closeAround 39 = .ok (.iload 6, 2) := by decide +kernel
theorem dX5_closeAround_41 : decode cX5_closeAround 41 = .ok (.iadd, 1) := by decide +kernel
theorem dX5_closeAround_42 : decode cX5_closeAround 42 = .ok (.iload_n 3, 1) := by decide +kernel
theorem dX5_closeAround_43 : decode cX5_closeAround 43 = .ok (.if_icmp .ge 11, 3) := by decide +kernel
theorem dX5_closeAround_46 : decode cX5_closeAround 46 = .ok (.aload_n 0, 1) := by decide +kernel
theorem dX5_closeAround_47 : decode cX5_closeAround 47 = .ok (.getfield 38, 3) := by decide +kernel
theorem dX5_closeAround_50 : decode cX5_closeAround 50 = .ok (.iload 4, 2) := by decide +kernel
theorem dX5_closeAround_52 : decode cX5_closeAround 52 = .ok (.iconst 0, 1) := by decide +kernel
theorem dX5_closeAround_53 : decode cX5_closeAround 53 = .ok (.bastore, 1) := by decide +kernel
theorem dX5_closeAround_54 : decode cX5_closeAround 54 = .ok (.iinc 4 1, 3) := by decide +kernel
theorem dX5_closeAround_57 : decode cX5_closeAround 57 = .ok (.goto (-54), 3) := by decide +kernel
theorem dX5_closeAround_60 : decode cX5_closeAround 60 = .ok (.return_, 1) := by decide +kernel
theorem dX6_init_0 : decode cX6_init 0 = .ok (.aload_n 0, 1) := by decide +kernel
theorem dX6_init_1 : decode cX6_init 1 = .ok (.invokespecial 3, 3) := by decide +kernel
theorem dX6_init_4 : decode cX6_init 4 = .ok (.aload_n 0, 1) := by decide +kernel
theorem dX6_init_5 : decode cX6_init 5 = .ok (.new 9, 3) := by decide +kernel
theorem dX6_init_8 : decode cX6_init 8 = .ok (.dup, 1) := by decide +kernel
theorem dX6_init_9 : decode cX6_init 9 = .ok (.invokespecial 11, 3) := by decide +kernel
theorem dX6_init_12 : decode cX6_init 12 = .ok (.putfield 12, 3) := by decide +kernel
theorem dX6_init_15 : decode cX6_init 15 = .ok (.aload_n 0, 1) := by decide +kernel
