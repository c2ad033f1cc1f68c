theorem dX6_init_16 : decode cX6_init 16 = .ok (.iconst 0, 1) := by decide +kernel
theorem dX6_init_17 : decode cX6_init 17 = .ok (.putfield 18, 3) := by decide +kernel
theorem dX6_init_20 : decode cX6_init 20 = .ok (.aload_n 0, 1) := by decide +kernel
theorem dX6_init_21 : decode cX6_init 21 = .ok (.iconst 0, 1) := by decide +kernel
theorem dX6_init_22 : decode cX6_init 22 = .ok (.putfield 22, 3) := by decide +kernel
theorem dX6_init_25 : decode cX6_init 25 = .ok (.return_, 1) := by decide +kernel
theorem dX6_readAll_0 : decode cX6_readAll 0 = .ok (.aload_n 0, 1) := by decide +kernel
theorem dX6_readAll_1 : decode cX6_readAll 1 = .ok (.getfield 12, 3) := by decide +kernel
theorem dX6_readAll_4 : decode cX6_readAll 4 = .ok (.invokevirtual 26, 3) := by decide +kernel
theorem dX6_readAll_7 : decode cX6_readAll 7 = .ok (.aload_n 0, 1) := by decide +kernel
theorem dX6_readAll_8 : decode cX6_readAll 8 = .ok (.iconst 0, 1) := by decide +kernel
theorem dX6_readAll_9 : decode cX6_readAll 9 = .ok (.putfield 18, 3) := by decide +kernel
theorem dX6_readAll_12 : decode cX6_readAll 12 = .ok (.aload_n 0, 1) := by decide +kernel
theorem dX6_readAll_13 : decode cX6_readAll 13 = .ok (.iconst 0, 1) := by decide +kernel
theorem dX6_readAll_14 : decode cX6_readAll 14 = .ok (.putfield 22, 3) := by decide +kernel
theorem dX6_readAll_17 : decode cX6_readAll 17 = .ok (.iconst 0, 1) := by decide +kernel
theorem dX6_readAll_18 : decode cX6_readAll 18 = .ok (.istore_n 2, 1) := by decide +kernel
theorem dX6_readAll_19 : decode cX6_readAll 19 = .ok (.iconst 0, 1) := by decide +kernel
theorem dX6_readAll_20 : decode cX6_readAll 20 = .ok (.istore_n 3, 1) := by decide +kernel
theorem dX6_readAll_21 : decode cX6_readAll 21 = .ok (.iload_n 3, 1) := by decide +kernel
theorem dX6_readAll_22 : decode cX6_readAll 22 = .ok (.sipush 200, 3) := by decide +kernel
theorem dX6_readAll_25 : decode cX6_readAll 25 = .ok (.if_icmp .ge 37, 3) := by decide +kernel
theorem dX6_readAll_28 : decode cX6_readAll 28 = .ok (.iload_n 2, 1) := by decide +kernel
theorem dX6_readAll_29 : decode cX6_readAll 29 = .ok (.aload_n 1, 1) := by decide +kernel
theorem dX6_readAll_30 : decode cX6_readAll 30 = .ok (.getfield 29, 3) := by decide +kernel
theorem dX6_readAll_33 : decode cX6_readAll 33 = .ok (.if_icmp .ge 29, 3) := by decide +kernel
theorem dX6_readAll_36 : decode cX6_readAll 36 = .ok (.aload_n 0, 1) := by decide +kernel
theorem dX6_readAll_37 : decode cX6_readAll 37 = .ok (.aload_n 1, 1) := by decide +kernel
theorem dX6_readAll_38 : decode cX6_readAll 38 = .ok (.iload_n 2, 1) := by decide +kernel
theorem dX6_readAll_39 : decode cX6_readAll 39 = .ok (.invokevirtual 34, 3) := by decide +kernel
theorem dX6_readAll_42 : decode cX6_readAll 42 = .ok (.istore 4, 2) := by decide +kernel
theorem dX6_readAll_44 : decode cX6_readAll 44 = .ok (.iload 4, 2) := by decide +kernel
theorem dX6_readAll_46 : decode cX6_readAll 46 = .ok (.ifCond .ne 5, 3) := by decide +kernel
theorem dX6_readAll_49 : decode cX6_readAll 49 = .ok (.iload_n 2, 1) := by decide +kernel
theorem dX6_readAll_50 : decode cX6_readAll 50 = .ok (.ireturn, 1) := by decide +kernel
theorem dX6_readAll_51 : decode cX6_readAll 51 = .ok (.iload_n 2, 1) := by decide +kernel
theorem dX6_readAll_52 : decode cX6_readAll 52 = .ok (.iload 4, 2) := by decide +kernel
theorem dX6_readAll_54 : decode cX6_readAll 54 = .ok (.iadd, 1) := by decide +kernel
theorem dX6_readAll_55 : decode cX6_readAll 55 = .ok (.istore_n 2, 1) := by decide +kernel
theorem dX6_readAll_56 : decode cX6_readAll 56 = .ok (.iinc 3 1, 3) := by decide +kernel
theorem dX6_readAll_59 : decode cX6_readAll 59 = .ok (.goto (-38), 3) := by decide +kernel
theorem dX6_readAll_62 : decode cX6_readAll 62 = .ok (.bipush (-4), 2) := by decide +kernel
theorem dX6_readAll_64 : decode cX6_readAll 64 = .ok (.ireturn, 1) := by decide +kernel
theorem dX6_readItem_0 : decode cX6_readItem 0 = .ok (.aload_n 1, 1) := by decide +kernel
theorem dX6_readItem_1 : decode cX6_readItem 1 = .ok (.iload_n 2, 1) := by decide +kernel
theorem dX6_readItem_2 : decode cX6_readItem 2 = .ok (.invokevirtual 38, 3) := by decide +kernel
theorem dX6_readItem_5 : decode cX6_readItem 5 = .ok (.istore_n 3, 1) := by decide +kernel
theorem dX6_readItem_6 : decode cX6_readItem 6 = .ok (.aload_n 0, 1) := by decide +kernel
theorem dX6_readItem_7 : decode cX6_readItem 7 = .ok (.getfield 18, 3) := by decide +kernel
theorem dX6_readItem_10 : decode cX6_readItem 10 = .ok (.ifCond .ne 20, 3) := by decide +kernel
theorem dX6_readItem_13 : decode cX6_readItem 13 = .ok (.iload_n 3, 1) := by decide +kernel
theorem dX6_readItem_14 : decode cX6_readItem 14 = .ok (.bipush 103, 2) := by decide +kernel
theorem dX6_readItem_16 : decode cX6_readItem 16 = .ok (.if_icmp .ne 12, 3) := by decide +kernel
theorem dX6_readItem_19 : decode cX6_readItem 19 = .ok (.aload_n 0, 1) := by decide +kernel
theorem dX6_readItem_20 : decode cX6_readItem 20 = .ok (.aload_n 1, 1) := by decide +kernel
theorem dX6_readItem_21 : decode cX6_readItem 21 = .ok (.iload_n 2, 1) := by decide +kernel
theorem dX6_readItem_22 : decode cX6_readItem 22 = .ok (.invokevirtual 42, 3) := by decide +kernel
theorem dX6_readItem_25 : decode cX6_readItem 25 = .ok (.goto 4, 3) := by decide +kernel
theorem dX6_readItem_28 : decode cX6_readItem 28 = .ok (.iconst 0, 1) := by decide +kernel
theorem dX6_readItem_29 : decode cX6_readItem 29 = .ok (.ireturn, 1) := by decide +kernel
theorem dX6_readItem_30 : decode cX6_readItem 30 = .ok (.iload_n 3, 1) := by decide +kernel
theorem dX6_readItem_31 : decode cX6_readItem 31 = .ok (.lookupswitch 54 #[(100, 40), (109, 47), (114, 33)], 33) := by decide +kernel
theorem dX6_readItem_64 : decode cX6_readItem 64 = .ok (.aload_n 0, 1) := by decide +kernel
theorem dX6_readItem_65 : decode cX6_readItem 65 = .ok (.aload_n 1, 1) := by decide +kernel
theorem dX6_readItem_66 : decode cX6_readItem 66 = .ok (.iload_n 2, 1) := by decide +kernel
theorem dX6_readItem_67 : decode cX6_readItem 67 = .ok (.invokevirtual 45, 3) := by decide +kernel
theorem dX6_readItem_70 : decode cX6_readItem 70 = .ok (.ireturn, 1) := by decide +kernel
theorem dX6_readItem_71 : decode cX6_readItem 71 = .ok (.aload_n 0, 1) := by decide +kernel
theorem dX6_readItem_72 : decode cX6_readItem 72 = .ok (.aload_n 1, 1) := by decide +kernel
theorem dX6_readItem_73 : decode cX6_readItem 73 = .ok (.iload_n 2, 1) := by decide +kernel
theorem dX6_readItem_74 : decode cX6_readItem 74 = .ok (.invokevirtual 48, 3) := by decide +kernel
theorem dX6_readItem_77 : decode cX6_readItem 77 = .ok (.ireturn, 1) := by decide +kernel
theorem dX6_readItem_78 : decode cX6_readItem 78 = .ok (.aload_n 0, 1) := by decide +kernel
theorem dX6_readItem_79 : decode cX6_readItem 79 = .ok (.aload_n 1, 1) := by decide +kernel
theorem dX6_readItem_80 : decode cX6_readItem 80 = .ok (.iload_n 2, 1) := by decide +kernel
theorem dX6_readItem_81 : decode cX6_readItem 81 = .ok (.invokevirtual 51, 3) := by decide +kernel
theorem dX6_readItem_84 : decode cX6_readItem 84 = .ok (.ireturn, 1) := by decide +kernel
theorem dX6_readItem_85 : decode cX6_readItem 85 = .ok (.iconst 0, 1) := by decide +kernel
theorem dX6_readItem_86 : decode cX6_readItem 86 = .ok (.ireturn, 1) := by decide +kernel
theorem dX6_readGrid_0 : decode cX6_readGrid 0 = .ok (.aload_n 1, 1) := by decide +kernel
theorem dX6_readGrid_1 : decode cX6_readGrid 1 = .ok (.iload_n 2, 1) := by decide +kernel
theorem dX6_readGrid_2 : decode cX6_readGrid 2 = .ok (.iconst 1, 1) := by decide +kernel
theorem dX6_readGrid_3 : decode cX6_readGrid 3 = .ok (.iadd, 1) := by decide +kernel
theorem dX6_readGrid_4 : decode cX6_readGrid 4 = .ok (.invokevirtual 38, 3) := by decide +kernel
theorem dX6_readGrid_7 : decode cX6_readGrid 7 = .ok (.invokestatic 54, 3) := by decide +kernel
theorem dX6_readGrid_10 : decode cX6_readGrid 10 = .ok (.istore_n 3, 1) := by decide +kernel
theorem dX6_readGrid_11 : decode cX6_readGrid 11 = .ok (.aload_n 1, 1) := by decide +kernel
theorem dX6_readGrid_12 : decode cX6_readGrid 12 = .ok (.iload_n 2, 1) := by decide +kernel
theorem dX6_readGrid_13 : decode cX6_readGrid 13 = .ok (.iconst 2, 1) := by decide +kernel
theorem dX6_readGrid_14 : decode cX6_readGrid 14 = .ok (.iadd, 1) := by decide +kernel
theorem dX6_readGrid_15 : decode cX6_readGrid 15 = .ok (.invokevirtual 38, 3) := by decide +kernel
theorem dX6_readGrid_18 : decode cX6_readGrid 18 = .ok (.invokestatic 54, 3) := by decide +kernel
theorem dX6_readGrid_21 : decode cX6_readGrid 21 = .ok (.istore 4, 2) := by decide +kernel
theorem dX6_readGrid_23 : decode cX6_readGrid 23 = .ok (.iconst 4, 1) := by decide +kernel
theorem dX6_readGrid_24 : decode cX6_readGrid 24 = .ok (.iload_n 3, 1) := by decide +kernel
theorem dX6_readGrid_25 : decode cX6_readGrid 25 = .ok (.bipush 11, 2) := by decide +kernel
theorem dX6_readGrid_27 : decode cX6_readGrid 27 = .ok (.invokestatic 58, 3) := by decide +kernel
theorem dX6_readGrid_30 : decode cX6_readGrid 30 = .ok (.ifCond .eq 26, 3) := by decide +kernel
theorem dX6_readGrid_33 : decode cX6_readGrid 33 = .ok (.iconst 4, 1) := by decide +kernel
theorem dX6_readGrid_34 : decode cX6_readGrid 34 = .ok (.iload 4, 2) := by decide +kernel
theorem dX6_readGrid_36 : decode cX6_readGrid 36 = .ok (.bipush 11, 2) := by decide +kernel
theorem dX6_readGrid_38 : decode cX6_readGrid 38 = .ok (.invokestatic 58, 3) := by decide +kernel
theorem dX6_readGrid_41 : decode cX6_readGrid 41 = .ok (.ifCond .eq 15, 3) := by decide +kernel
theorem dX6_readGrid_44 : decode cX6_readGrid 44 = .ok (.aload_n 1, 1) := by decide +kernel
theorem dX6_readGrid_45 : decode cX6_readGrid 45 = .ok (.iload_n 2, 1) := by decide +kernel
theorem dX6_readGrid_46 : decode cX6_readGrid 46 = .ok (.iconst 3, 1) := by decide +kernel
theorem dX6_readGrid_47 : decode cX6_readGrid 47 = .ok (.iadd, 1) := by decide +kernel
theorem dX6_readGrid_48 : decode cX6_readGrid 48 = .ok (.invokevirtual 38, 3) := by decide +kernel
theorem dX6_readGrid_51 : decode cX6_readGrid 51 = .ok (.bipush 59, 2) := by decide +kernel
theorem dX6_readGrid_53 : decode cX6_readGrid 53 = .ok (.if_icmp .eq 5, 3) := by decide +kernel
theorem dX6_readGrid_56 : decode cX6_readGrid 56 = .ok (.iconst 0, 1) := by decide +kernel
theorem dX6_readGrid_57 : decode cX6_readGrid 57 = .ok (.ireturn, 1) := by decide +kernel
theorem dX6_readGrid_58 : decode cX6_readGrid 58 = .ok (.aload_n 0, 1) := by decide +kernel
theorem dX6_readGrid_59 : decode cX6_readGrid 59 = .ok (.getfield 12, 3) := by decide +kernel
theorem dX6_readGrid_62 : decode cX6_readGrid 62 = .ok (.iload_n 3, 1) := by decide +kernel
theorem dX6_readGrid_63 : decode cX6_readGrid 63 = .ok (.putfield 62, 3) := by decide +kernel
theorem dX6_readGrid_66 : decode cX6_readGrid 66 = .ok (.aload_n 0, 1) := by decide +kernel
theorem dX6_readGrid_67 : decode cX6_readGrid 67 = .ok (.getfield 12, 3) := by decide +kernel
theorem dX6_readGrid_70 : decode cX6_readGrid 70 = .ok (.iload 4, 2) := by decide +kernel
theorem dX6_readGrid_72 : decode cX6_readGrid 72 = .ok (.putfield 65, 3) := by decide +kernel
theorem dX6_readGrid_75 : decode cX6_readGrid 75 = .ok (.aload_n 0, 1) := by decide +kernel
theorem dX6_readGrid_76 : decode cX6_readGrid 76 = .ok (.iconst 1, 1) := by decide +kernel
theorem dX6_readGrid_77 : decode cX6_readGrid 77 = .ok (.putfield 18, 3) := by decide +kernel
theorem dX6_readGrid_80 : decode cX6_readGrid 80 = .ok (.iconst 4, 1) := by decide +kernel
theorem dX6_readGrid_81 : decode cX6_readGrid 81 = .ok (.ireturn, 1) := by decide +kernel
theorem dX6_readRow_0 : decode cX6_readRow 0 = .ok (.aload_n 0, 1) := by decide +kernel
theorem dX6_readRow_1 : decode cX6_readRow 1 = .ok (.getfield 22, 3) := by decide +kernel
theorem dX6_readRow_4 : decode cX6_readRow 4 = .ok (.aload_n 0, 1) := by decide +kernel
theorem dX6_readRow_5 : decode cX6_readRow 5 = .ok (.getfield 12, 3) := by decide +kernel
theorem dX6_readRow_8 : decode cX6_readRow 8 = .ok (.getfield 65, 3) := by decide +kernel
theorem dX6_readRow_11 : decode cX6_readRow 11 = .ok (.if_icmp .ge 12, 3) := by decide +kernel
theorem dX6_readRow_14 : decode cX6_readRow 14 = .ok (.aload_n 0, 1) := by decide +kernel
theorem dX6_readRow_15 : decode cX6_readRow 15 = .ok (.getfield 22, 3) := by decide +kernel
theorem dX6_readRow_18 : decode cX6_readRow 18 = .ok (.bipush 11, 2) := by decide +kernel
theorem dX6_readRow_20 : decode cX6_readRow 20 = .ok (.if_icmp .lt 5, 3) := by decide +kernel
theorem dX6_readRow_23 : decode cX6_readRow 23 = .ok (.iconst 0, 1) := by decide +kernel
theorem dX6_readRow_24 : decode cX6_readRow 24 = .ok (.ireturn, 1) := by decide +kernel
theorem dX6_readRow_25 : decode cX6_readRow 25 = .ok (.iconst 0, 1) := by decide +kernel
theorem dX6_readRow_26 : decode cX6_readRow 26 = .ok (.istore_n 3, 1) := by decide +kernel
theorem dX6_readRow_27 : decode cX6_readRow 27 = .ok (.iconst 0, 1) := by decide +kernel
theorem dX6_readRow_28 : decode cX6_readRow 28 = .ok (.istore 4, 2) := by decide +kernel
theorem dX6_readRow_30 : decode cX6_readRow 30 = .ok (.iload 4, 2) := by decide +kernel
theorem dX6_readRow_32 : decode cX6_readRow 32 = .ok (.aload_n 0, 1) := by decide +kernel
theorem dX6_readRow_33 : decode cX6_readRow 33 = .ok (.getfield 12, 3) := by decide +kernel
theorem dX6_readRow_36 : decode cX6_readRow 36 = .ok (.getfield 62, 3) := by decide +kernel
theorem dX6_readRow_39 : decode cX6_readRow 39 = .ok (.if_icmp .ge 47, 3) := by decide +kernel
theorem dX6_readRow_42 : decode cX6_readRow 42 = .ok (.aload_n 1, 1) := by decide +kernel
theorem dX6_readRow_43 : decode cX6_readRow 43 = .ok (.iload_n 2, 1) := by decide +kernel
theorem dX6_readRow_44 : decode cX6_readRow 44 = .ok (.iconst 1, 1) := by decide +kernel
theorem dX6_readRow_45 : decode cX6_readRow 45 = .ok (.iadd, 1) := by decide +kernel
theorem dX6_readRow_46 : decode cX6_readRow 46 = .ok (.iload 4, 2) := by decide +kernel
theorem dX6_readRow_48 : decode cX6_readRow 48 = .ok (.iadd, 1) := by decide +kernel
theorem dX6_readRow_49 : decode cX6_readRow 49 = .ok (.invokevirtual 38, 3) := by decide +kernel
theorem dX6_readRow_52 : decode cX6_readRow 52 = .ok (.istore 5, 2) := by decide +kernel
theorem dX6_readRow_54 : decode cX6_readRow 54 = .ok (.iload 5, 2) := by decide +kernel
theorem dX6_readRow_56 : decode cX6_readRow 56 = .ok (.bipush 35, 2) := by decide +kernel
theorem dX6_readRow_58 : decode cX6_readRow 58 = .ok (.if_icmp .ne 13, 3) := by decide +kernel
theorem dX6_readRow_61 : decode cX6_readRow 61 = .ok (.iload_n 3, 1) := by decide +kernel
theorem dX6_readRow_62 : decode cX6_readRow 62 = .ok (.iconst 1, 1) := by decide +kernel
theorem dX6_readRow_63 : decode cX6_readRow 63 = .ok (.iload 4, 2) := by decide +kernel
theorem dX6_readRow_65 : decode cX6_readRow 65 = .ok (.ishl, 1) := by decide +kernel
theorem dX6_readRow_66 : decode cX6_readRow 66 = .ok (.ior, 1) := by decide +kernel
theorem dX6_readRow_67 : decode cX6_readRow 67 = .ok (.istore_n 3, 1) := by decide +kernel
theorem dX6_readRow_68 : decode cX6_readRow 68 = .ok (.goto 12, 3) := by decide +kernel
theorem dX6_readRow_71 : decode cX6_readRow 71 = .ok (.iload 5, 2) := by decide +kernel
theorem dX6_readRow_73 : decode cX6_readRow 73 = .ok (.bipush 46, 2) := by decide +kernel
theorem dX6_readRow_75 : decode cX6_readRow 75 = .ok (.if_icmp .eq 5, 3) := by decide +kernel
theorem dX6_readRow_78 : decode cX6_readRow 78 = .ok (.iconst 0, 1) := by decide +kernel
theorem dX6_readRow_79 : decode cX6_readRow 79 = .ok (.ireturn, 1) := by decide +kernel
theorem dX6_readRow_80 : decode cX6_readRow 80 = .ok (.iinc 4 1, 3) := by decide +kernel
theorem dX6_readRow_83 : decode cX6_readRow 83 = .ok (.goto (-53), 3) := by decide +kernel
theorem dX6_readRow_86 : decode cX6_readRow 86 = .ok (.aload_n 1, 1) := by decide +kernel
theorem dX6_readRow_87 : decode cX6_readRow 87 = .ok (.iload_n 2, 1) := by decide +kernel
theorem dX6_readRow_88 : decode cX6_readRow 88 = .ok (.iconst 1, 1) := by decide +kernel
theorem dX6_readRow_89 : decode cX6_readRow 89 = .ok (.iadd, 1) := by decide +kernel
theorem dX6_readRow_90 : decode cX6_readRow 90 = .ok (.aload_n 0, 1) := by decide +kernel
theorem dX6_readRow_91 : decode cX6_readRow 91 = .ok (.getfield 12, 3) := by decide +kernel
theorem dX6_readRow_94 : decode cX6_readRow 94 = .ok (.getfield 62, 3) := by decide +kernel
theorem dX6_readRow_97 : decode cX6_readRow 97 = .ok (.iadd, 1) := by decide +kernel
theorem dX6_readRow_98 : decode cX6_readRow 98 = .ok (.invokevirtual 38, 3) := by decide +kernel
theorem dX6_readRow_101 : decode cX6_readRow 101 = .ok (.bipush 59, 2) := by decide +kernel
theorem dX6_readRow_103 : decode cX6_readRow 103 = .ok (.if_icmp .eq 5, 3) := by decide +kernel
theorem dX6_readRow_106 : decode cX6_readRow 106 = .ok (.iconst 0, 1) := by decide +kernel
theorem dX6_readRow_107 : decode cX6_readRow 107 = .ok (.ireturn, 1) := by decide +kernel
theorem dX6_readRow_108 : decode cX6_readRow 108 = .ok (.aload_n 0, 1) := by decide +kernel
theorem dX6_readRow_109 : decode cX6_readRow 109 = .ok (.getfield 12, 3) := by decide +kernel
theorem dX6_readRow_112 : decode cX6_readRow 112 = .ok (.getfield 68, 3) := by decide +kernel
theorem dX6_readRow_115 : decode cX6_readRow 115 = .ok (.aload_n 0, 1) := by decide +kernel
theorem dX6_readRow_116 : decode cX6_readRow 116 = .ok (.getfield 22, 3) := by decide +kernel
theorem dX6_readRow_119 : decode cX6_readRow 119 = .ok (.iload_n 3, 1) := by decide +kernel
theorem dX6_readRow_120 : decode cX6_readRow 120 = .ok (.iastore, 1) := by decide +kernel
theorem dX6_readRow_121 : decode cX6_readRow 121 = .ok (.aload_n 0, 1) := by decide +kernel
theorem dX6_readRow_122 : decode cX6_readRow 122 = .ok (.dup, 1) := by decide +kernel
theorem dX6_readRow_123 : decode cX6_readRow 123 = .ok (.getfield 22, 3) := by decide +kernel
theorem dX6_readRow_126 : decode cX6_readRow 126 = .ok (.iconst 1, 1) := by decide +kernel
theorem dX6_readRow_127 : decode cX6_readRow 127 = .ok (.iadd, 1) := by decide +kernel
theorem dX6_readRow_128 : decode cX6_readRow 128 = .ok (.putfield 22, 3) := by decide +kernel
theorem dX6_readRow_131 : decode cX6_readRow 131 = .ok (.aload_n 0, 1) := by decide +kernel
theorem dX6_readRow_132 : decode cX6_readRow 132 = .ok (.getfield 12, 3) := by decide +kernel
theorem dX6_readRow_135 : decode cX6_readRow 135 = .ok (.getfield 62, 3) := by decide +kernel
theorem dX6_readRow_138 : decode cX6_readRow 138 = .ok (.iconst 2, 1) := by decide +kernel
theorem dX6_readRow_139 : decode cX6_readRow 139 = .ok (.iadd, 1) := by decide +kernel
theorem dX6_readRow_140 : decode cX6_readRow 140 = .ok (.ireturn, 1) := by decide +kernel
theorem dX6_readDot_0 : decode cX6_readDot 0 = .ok (.aload_n 1, 1) := by decide +kernel
theorem dX6_readDot_1 : decode cX6_readDot 1 = .ok (.iload_n 2, 1) := by decide +kernel
theorem dX6_readDot_2 : decode cX6_readDot 2 = .ok (.iconst 1, 1) := by decide +kernel
theorem dX6_readDot_3 : decode cX6_readDot 3 = .ok (.iadd, 1) := by decide +kernel
theorem dX6_readDot_4 : decode cX6_readDot 4 = .ok (.invokevirtual 38, 3) := by decide +kernel
theorem dX6_readDot_7 : decode cX6_readDot 7 = .ok (.bipush 97, 2) := by decide +kernel
theorem dX6_readDot_9 : decode cX6_readDot 9 = .ok (.isub, 1) := by decide +kernel
theorem dX6_readDot_10 : decode cX6_readDot 10 = .ok (.iconst 5, 1) := by decide +kernel
theorem dX6_readDot_11 : decode cX6_readDot 11 = .ok (.isub, 1) := by decide +kernel
theorem dX6_readDot_12 : decode cX6_readDot 12 = .ok (.istore_n 3, 1) := by decide +kernel
theorem dX6_readDot_13 : decode cX6_readDot 13 = .ok (.aload_n 1, 1) := by decide +kernel
theorem dX6_readDot_14 : decode cX6_readDot 14 = .ok (.iload_n 2, 1) := by decide +kernel
theorem dX6_readDot_15 : decode cX6_readDot 15 = .ok (.iconst 2, 1) := by decide +kernel
theorem dX6_readDot_16 : decode cX6_readDot 16 = .ok (.iadd, 1) := by decide +kernel
theorem dX6_readDot_17 : decode cX6_readDot 17 = .ok (.invokevirtual 38, 3) := by decide +kernel
theorem dX6_readDot_20 : decode cX6_readDot 20 = .ok (.bipush 97, 2) := by decide +kernel
theorem dX6_readDot_22 : decode cX6_readDot 22 = .ok (.isub, 1) := by decide +kernel
theorem dX6_readDot_23 : decode cX6_readDot 23 = .ok (.iconst 5, 1) := by decide +kernel
theorem dX6_readDot_24 : decode cX6_readDot 24 = .ok (.isub, 1) := by decide +kernel
theorem dX6_readDot_25 : decode cX6_readDot 25 = .ok (.istore 4, 2) := by decide +kernel
theorem dX6_readDot_27 : decode cX6_readDot 27 = .ok (.bipush (-5), 2) := by decide +kernel
theorem dX6_readDot_29 : decode cX6_readDot 29 = .ok (.iload_n 3, 1) := by decide +kernel
theorem dX6_readDot_30 : decode cX6_readDot 30 = .ok (.iconst 5, 1) := by decide +kernel
theorem dX6_readDot_31 : decode cX6_readDot 31 = .ok (.invokestatic 58, 3) := by decide +kernel
theorem dX6_readDot_34 : decode cX6_readDot 34 = .ok (.ifCond .eq 51, 3) := by decide +kernel
theorem dX6_readDot_37 : decode cX6_readDot 37 = .ok (.bipush (-5), 2) := by decide +kernel
theorem dX6_readDot_39 : decode cX6_readDot 39 = .ok (.iload 4, 2) := by decide +kernel
theorem dX6_readDot_41 : decode cX6_readDot 41 = .ok (.iconst 5, 1) := by decide +kernel
theorem dX6_readDot_42 : decode cX6_readDot 42 = .ok (.invokestatic 58, 3) := by decide +kernel
theorem dX6_readDot_45 : decode cX6_readDot 45 = .ok (.ifCond .eq 40, 3) := by decide +kernel
theorem dX6_readDot_48 : decode cX6_readDot 48 = .ok (.aload_n 1, 1) := by decide +kernel
theorem dX6_readDot_49 : decode cX6_readDot 49 = .ok (.iload_n 2, 1) := by decide +kernel
theorem dX6_readDot_50 : decode cX6_readDot 50 = .ok (.iconst 3, 1) := by decide +kernel
theorem dX6_readDot_51 : decode cX6_readDot 51 = .ok (.iadd, 1) := by decide +kernel
theorem dX6_readDot_52 : decode cX6_readDot 52 = .ok (.invokevirtual 38, 3) := by decide +kernel
theorem dX6_readDot_55 : decode cX6_readDot 55 = .ok (.bipush 59, 2) := by decide +kernel
theorem dX6_readDot_57 : decode cX6_readDot 57 = .ok (.if_icmp .ne 28, 3) := by decide +kernel
theorem dX6_readDot_60 : decode cX6_readDot 60 = .ok (.aload_n 0, 1) := by decide +kernel
theorem dX6_readDot_61 : decode cX6_readDot 61 = .ok (.getfield 12, 3) := by decide +kernel
theorem dX6_readDot_64 : decode cX6_readDot 64 = .ok (.getfield 72, 3) := by decide +kernel
theorem dX6_readDot_67 : decode cX6_readDot 67 = .ok (.bipush 10, 2) := by decide +kernel
theorem dX6_readDot_69 : decode cX6_readDot 69 = .ok (.if_icmp .ge 16, 3) := by decide +kernel
theorem dX6_readDot_72 : decode cX6_readDot 72 = .ok (.aload_n 0, 1) := by decide +kernel
theorem dX6_readDot_73 : decode cX6_readDot 73 = .ok (.getfield 12, 3) := by decide +kernel
theorem dX6_readDot_76 : decode cX6_readDot 76 = .ok (.iload_n 3, 1) := by decide +kernel
theorem dX6_readDot_77 : decode cX6_readDot 77 = .ok (.iload 4, 2) := by decide +kernel
theorem dX6_readDot_79 : decode cX6_readDot 79 = .ok (.invokevirtual 75, 3) := by decide +kernel
theorem dX6_readDot_82 : decode cX6_readDot 82 = .ok (.ifCond .eq 5, 3) := by decide +kernel
theorem dX6_readDot_85 : decode cX6_readDot 85 = .ok (.iconst 0, 1) := by decide +kernel
theorem dX6_readDot_86 : decode cX6_readDot 86 = .ok (.ireturn, 1) := by decide +kernel
theorem dX6_readDot_87 : decode cX6_readDot 87 = .ok (.aload_n 0, 1) := by decide +kernel
theorem dX6_readDot_88 : decode cX6_readDot 88 = .ok (.getfield 12, 3) := by decide +kernel
theorem dX6_readDot_91 : decode cX6_readDot 91 = .ok (.iload_n 3, 1) := by decide +kernel
theorem dX6_readDot_92 : decode cX6_readDot 92 = .ok (.iload 4, 2) := by decide +kernel
theorem dX6_readDot_94 : decode cX6_readDot 94 = .ok (.invokevirtual 79, 3) := by decide +kernel
theorem dX6_readDot_97 : decode cX6_readDot 97 = .ok (.iconst 4, 1) := by decide +kernel
theorem dX6_readDot_98 : decode cX6_readDot 98 = .ok (.ireturn, 1) := by decide +kernel
theorem dX6_readMetric_0 : decode cX6_readMetric 0 = .ok (.aload_n 1, 1) := by decide +kernel
theorem dX6_readMetric_1 : decode cX6_readMetric 1 = .ok (.iload_n 2, 1) := by decide +kernel
theorem dX6_readMetric_2 : decode cX6_readMetric 2 = .ok (.iconst 1, 1) := by decide +kernel
theorem dX6_readMetric_3 : decode cX6_readMetric 3 = .ok (.iadd, 1) := by decide +kernel
theorem dX6_readMetric_4 : decode cX6_readMetric 4 = .ok (.invokevirtual 38, 3) := by decide +kernel
theorem dX6_readMetric_7 : decode cX6_readMetric 7 = .ok (.bipush 48, 2) := by decide +kernel
theorem dX6_readMetric_9 : decode cX6_readMetric 9 = .ok (.isub, 1) := by decide +kernel
theorem dX6_readMetric_10 : decode cX6_readMetric 10 = .ok (.istore_n 3, 1) := by decide +kernel
theorem dX6_readMetric_11 : decode cX6_readMetric 11 = .ok (.aload_n 1, 1) := by decide +kernel
theorem dX6_readMetric_12 : decode cX6_readMetric 12 = .ok (.iload_n 2, 1) := by decide +kernel
theorem dX6_readMetric_13 : decode cX6_readMetric 13 = .ok (.iconst 2, 1) := by decide +kernel
theorem dX6_readMetric_14 : decode cX6_readMetric 14 = .ok (.iadd, 1) := by decide +kernel
theorem dX6_readMetric_15 : decode cX6_readMetric 15 = .ok (.invokevirtual 38, 3) := by decide +kernel
theorem dX6_readMetric_18 : decode cX6_readMetric 18 = .ok (.bipush 48, 2) := by decide +kernel
theorem dX6_readMetric_20 : decode cX6_readMetric 20 = .ok (.isub, 1) := by decide +kernel
theorem dX6_readMetric_21 : decode cX6_readMetric 21 = .ok (.istore 4, 2) := by decide +kernel
theorem dX6_readMetric_23 : decode cX6_readMetric 23 = .ok (.aload_n 1, 1) := by decide +kernel
theorem dX6_readMetric_24 : decode cX6_readMetric 24 = .ok (.iload_n 2, 1) := by decide +kernel
theorem dX6_readMetric_25 : decode cX6_readMetric 25 = .ok (.iconst 3, 1) := by decide +kernel
theorem dX6_readMetric_26 : decode cX6_readMetric 26 = .ok (.iadd, 1) := by decide +kernel
theorem dX6_readMetric_27 : decode cX6_readMetric 27 = .ok (.invokevirtual 38, 3) := by decide +kernel
theorem dX6_readMetric_30 : decode cX6_readMetric 30 = .ok (.bipush 48, 2) := by decide +kernel
theorem dX6_readMetric_32 : decode cX6_readMetric 32 = .ok (.isub, 1) := by decide +kernel
theorem dX6_readMetric_33 : decode cX6_readMetric 33 = .ok (.istore 5, 2) := by decide +kernel
theorem dX6_readMetric_35 : decode cX6_readMetric 35 = .ok (.iconst 0, 1) := by decide +kernel
theorem dX6_readMetric_36 : decode cX6_readMetric 36 = .ok (.iload_n 3, 1) := by decide +kernel
theorem dX6_readMetric_37 : decode cX6_readMetric 37 = .ok (.iconst 2, 1) := by decide +kernel
theorem dX6_readMetric_38 : decode cX6_readMetric 38 = .ok (.invokestatic 58, 3) := by decide +kernel
theorem dX6_readMetric_41 : decode cX6_readMetric 41 = .ok (.ifCond .eq 45, 3) := by decide +kernel
theorem dX6_readMetric_44 : decode cX6_readMetric 44 = .ok (.iconst 0, 1) := by decide +kernel
theorem dX6_readMetric_45 : decode cX6_readMetric 45 = .ok (.iload 4, 2) := by decide +kernel
theorem dX6_readMetric_47 : decode cX6_readMetric 47 = .ok (.bipush 9, 2) := by decide +kernel
theorem dX6_readMetric_49 : decode cX6_readMetric 49 = .ok (.invokestatic 58, 3) := by decide +kernel
theorem dX6_readMetric_52 : decode cX6_readMetric 52 = .ok (.ifCond .eq 34, 3) := by decide +kernel
theorem dX6_readMetric_55 : decode cX6_readMetric 55 = .ok (.iconst 0, 1) := by decide +kernel
theorem dX6_readMetric_56 : decode cX6_readMetric 56 = .ok (.iload 5, 2) := by decide +kernel
theorem dX6_readMetric_58 : decode cX6_readMetric 58 = .ok (.bipush 9, 2) := by decide +kernel
theorem dX6_readMetric_60 : decode cX6_readMetric 60 = .ok (.invokestatic 58, 3) := by decide +kernel
theorem dX6_readMetric_63 : decode cX6_readMetric 63 = .ok (.ifCond .eq 23, 3) := by decide +kernel
theorem dX6_readMetric_66 : decode cX6_readMetric 66 = .ok (.iload 4, 2) := by decide +kernel
theorem dX6_readMetric_68 : decode cX6_readMetric 68 = .ok (.iload 5, 2) := by decide +kernel
theorem dX6_readMetric_70 : decode cX6_readMetric 70 = .ok (.iadd, 1) := by decide +kernel
theorem dX6_readMetric_71 : decode cX6_readMetric 71 = .ok (.ifCond .eq 15, 3) := by decide +kernel
theorem dX6_readMetric_74 : decode cX6_readMetric 74 = .ok (.aload_n 1, 1) := by decide +kernel
theorem dX6_readMetric_75 : decode cX6_readMetric 75 = .ok (.iload_n 2, 1) := by decide +kernel
theorem dX6_readMetric_76 : decode cX6_readMetric 76 = .ok (.iconst 4, 1) := by decide +kernel
theorem dX6_readMetric_77 : decode cX6_readMetric 77 = .ok (.iadd, 1) := by decide +kernel
theorem dX6_readMetric_78 : decode cX6_readMetric 78 = .ok (.invokevirtual 38, 3) := by decide +kernel
theorem dX6_readMetric_81 : decode cX6_readMetric 81 = .ok (.bipush 59, 2) := by decide +kernel
theorem dX6_readMetric_83 : decode cX6_readMetric 83 = .ok (.if_icmp .eq 5, 3) := by decide +kernel
theorem dX6_readMetric_86 : decode cX6_readMetric 86 = .ok (.iconst 0, 1) := by decide +kernel
theorem dX6_readMetric_87 : decode cX6_readMetric 87 = .ok (.ireturn, 1) := by decide +kernel
theorem dX6_readMetric_88 : decode cX6_readMetric 88 = .ok (.aload_n 0, 1) := by decide +kernel
theorem dX6_readMetric_89 : decode cX6_readMetric 89 = .ok (.getfield 12, 3) := by decide +kernel
theorem dX6_readMetric_92 : decode cX6_readMetric 92 = .ok (.iload_n 3, 1) := by decide +kernel
theorem dX6_readMetric_93 : decode cX6_readMetric 93 = .ok (.putfield 83, 3) := by decide +kernel
theorem dX6_readMetric_96 : decode cX6_readMetric 96 = .ok (.aload_n 0, 1) := by decide +kernel
theorem dX6_readMetric_97 : decode cX6_readMetric 97 = .ok (.getfield 12, 3) := by decide +kernel
theorem dX6_readMetric_100 : decode cX6_readMetric 100 = .ok (.bipush 10, 2) := by decide +kernel
theorem dX6_readMetric_102 : decode cX6_readMetric 102 = .ok (.iload 4, 2) := by decide +kernel
theorem dX6_readMetric_104 : decode cX6_readMetric 104 = .ok (.imul, 1) := by decide +kernel
theorem dX6_readMetric_105 : decode cX6_readMetric 105 = .ok (.iload 5, 2) := by decide +kernel
theorem dX6_readMetric_107 : decode cX6_readMetric 107 = .ok (.iadd, 1) := by decide +kernel
theorem dX6_readMetric_108 : decode cX6_readMetric 108 = .ok (.putfield 86, 3) := by decide +kernel
theorem dX6_readMetric_111 : decode cX6_readMetric 111 = .ok (.iconst 5, 1) := by decide +kernel
theorem dX6_readMetric_112 : decode cX6_readMetric 112 = .ok (.ireturn, 1) := by decide +kernel
theorem dX6_sideOf_0 : decode cX6_sideOf 0 = .ok (.iload_n 0, 1) := by decide +kernel
theorem dX6_sideOf_1 : decode cX6_sideOf 1 = .ok (.bipush 97, 2) := by decide +kernel
theorem dX6_sideOf_3 : decode cX6_sideOf 3 = .ok (.if_icmp .eq 9, 3) := by decide +kernel
theorem dX6_sideOf_6 : decode cX6_sideOf 6 = .ok (.iload_n 0, 1) := by decide +kernel
theorem dX6_sideOf_7 : decode cX6_sideOf 7 = .ok (.bipush 98, 2) := by decide +kernel
theorem dX6_sideOf_9 : decode cX6_sideOf 9 = .ok (.if_icmp .ne 11, 3) := by decide +kernel
theorem dX6_sideOf_12 : decode cX6_sideOf 12 = .ok (.iload_n 0, 1) := by decide +kernel
theorem dX6_sideOf_13 : decode cX6_sideOf 13 = .ok (.bipush 97, 2) := by decide +kernel
theorem dX6_sideOf_15 : decode cX6_sideOf 15 = .ok (.isub, 1) := by decide +kernel
theorem dX6_sideOf_16 : decode cX6_sideOf 16 = .ok (.bipush 10, 2) := by decide +kernel
theorem dX6_sideOf_18 : decode cX6_sideOf 18 = .ok (.iadd, 1) := by decide +kernel
theorem dX6_sideOf_19 : decode cX6_sideOf 19 = .ok (.ireturn, 1) := by decide +kernel
theorem dX6_sideOf_20 : decode cX6_sideOf 20 = .ok (.iload_n 0, 1) := by decide +kernel
theorem dX6_sideOf_21 : decode cX6_sideOf 21 = .ok (.bipush 48, 2) := by decide +kernel
theorem dX6_sideOf_23 : decode cX6_sideOf 23 = .ok (.isub, 1) := by decide +kernel
theorem dX6_sideOf_24 : decode cX6_sideOf 24 = .ok (.bipush 9, 2) := by decide +kernel
theorem dX6_sideOf_26 : decode cX6_sideOf 26 = .ok (.if_icmp .gt 10, 3) := by decide +kernel
theorem dX6_sideOf_29 : decode cX6_sideOf 29 = .ok (.iload_n 0, 1) := by decide +kernel
theorem dX6_sideOf_30 : decode cX6_sideOf 30 = .ok (.bipush 48, 2) := by decide +kernel
theorem dX6_sideOf_32 : decode cX6_sideOf 32 = .ok (.isub, 1) := by decide +kernel
theorem dX6_sideOf_33 : decode cX6_sideOf 33 = .ok (.goto 4, 3) := by decide +kernel
theorem dX6_sideOf_36 : decode cX6_sideOf 36 = .ok (.iconst (-1), 1) := by decide +kernel
theorem dX6_sideOf_37 : decode cX6_sideOf 37 = .ok (.ireturn, 1) := by decide +kernel
theorem dX7_init_0 : decode cX7_init 0 = .ok (.aload_n 0, 1) := by decide +kernel
theorem dX7_init_1 : decode cX7_init 1 = .ok (.invokespecial 3, 3) := by decide +kernel
theorem dX7_init_4 : decode cX7_init 4 = .ok (.aload_n 0, 1) := by decide +kernel
theorem dX7_init_5 : decode cX7_init 5 = .ok (.iconst 4, 1) := by decide +kernel
theorem dX7_init_6 : decode cX7_init 6 = .ok (.putfield 9, 3) := by decide +kernel
theorem dX7_init_9 : decode cX7_init 9 = .ok (.aload_n 0, 1) := by decide +kernel
theorem dX7_init_10 : decode cX7_init 10 = .ok (.iconst 4, 1) := by decide +kernel
theorem dX7_init_11 : decode cX7_init 11 = .ok (.putfield 15, 3) := by decide +kernel
theorem dX7_init_14 : decode cX7_init 14 = .ok (.aload_n 0, 1) := by decide +kernel
theorem dX7_init_15 : decode cX7_init 15 = .ok (.bipush 11, 2) := by decide +kernel
theorem dX7_init_17 : decode cX7_init 17 = .ok (.newarray .int, 2) := by decide +kernel
theorem dX7_init_19 : decode cX7_init 19 = .ok (.putfield 18, 3) := by decide +kernel
theorem dX7_init_22 : decode cX7_init 22 = .ok (.aload_n 0, 1) := by decide +kernel
theorem dX7_init_23 : decode cX7_init 23 = .ok (.bipush 10, 2) := by decide +kernel
theorem dX7_init_25 : decode cX7_init 25 = .ok (.newarray .int, 2) := by decide +kernel
theorem dX7_init_27 : decode cX7_init 27 = .ok (.putfield 22, 3) := by decide +kernel
theorem dX7_init_30 : decode cX7_init 30 = .ok (.aload_n 0, 1) := by decide +kernel
theorem dX7_init_31 : decode cX7_init 31 = .ok (.bipush 10, 2) := by decide +kernel
theorem dX7_init_33 : decode cX7_init 33 = .ok (.newarray .int, 2) := by decide +kernel
theorem dX7_init_35 : decode cX7_init 35 = .ok (.putfield 25, 3) := by decide +kernel
theorem dX7_init_38 : decode cX7_init 38 = .ok (.aload_n 0, 1) := by decide +kernel
theorem dX7_init_39 : decode cX7_init 39 = .ok (.iconst 0, 1) := by decide +kernel
theorem dX7_init_40 : decode cX7_init 40 = .ok (.putfield 28, 3) := by decide +kernel
theorem dX7_init_43 : decode cX7_init 43 = .ok (.aload_n 0, 1) := by decide +kernel
theorem dX7_init_44 : decode cX7_init 44 = .ok (.iconst 0, 1) := by decide +kernel
theorem dX7_init_45 : decode cX7_init 45 = .ok (.putfield 31, 3) := by decide +kernel
theorem dX7_init_48 : decode cX7_init 48 = .ok (.aload_n 0, 1) := by decide +kernel
theorem dX7_init_49 : decode cX7_init 49 = .ok (.bipush 99, 2) := by decide +kernel
theorem dX7_init_51 : decode cX7_init 51 = .ok (.putfield 34, 3) := by decide +kernel
theorem dX7_init_54 : decode cX7_init 54 = .ok (.return_, 1) := by decide +kernel
theorem dX7_clear_0 : decode cX7_clear 0 = .ok (.aload_n 0, 1) := by decide +kernel
theorem dX7_clear_1 : decode cX7_clear 1 = .ok (.iconst 4, 1) := by decide +kernel
theorem dX7_clear_2 : decode cX7_clear 2 = .ok (.putfield 9, 3) := by decide +kernel
theorem dX7_clear_5 : decode cX7_clear 5 = .ok (.aload_n 0, 1) := by decide +kernel
theorem dX7_clear_6 : decode cX7_clear 6 = .ok (.iconst 4, 1) := by decide +kernel
theorem dX7_clear_7 : decode cX7_clear 7 = .ok (.putfield 15, 3) := by decide +kernel
theorem dX7_clear_10 : decode cX7_clear 10 = .ok (.iconst 0, 1) := by decide +kernel
theorem dX7_clear_11 : decode cX7_clear 11 = .ok (.istore_n 1, 1) := by decide +kernel
theorem dX7_clear_12 : decode cX7_clear 12 = .ok (.iload_n 1, 1) := by decide +kernel
theorem dX7_clear_13 : decode cX7_clear 13 = .ok (.aload_n 0, 1) := by decide +kernel
theorem dX7_clear_14 : decode cX7_clear 14 = .ok (.getfield 18, 3) := by decide +kernel
theorem dX7_clear_17 : decode cX7_clear 17 = .ok (.arraylength, 1) := by decide +kernel
theorem dX7_clear_18 : decode cX7_clear 18 = .ok (.if_icmp .ge 16, 3) := by decide +kernel
theorem dX7_clear_21 : decode cX7_clear 21 = .ok (.aload_n 0, 1) := by decide +kernel
theorem dX7_clear_22 : decode cX7_clear 22 = .ok (.getfield 18, 3) := by decide +kernel
theorem dX7_clear_25 : decode cX7_clear 25 = .ok (.iload_n 1, 1) := by decide +kernel
theorem dX7_clear_26 : decode cX7_clear 26 = .ok (.iconst 0, 1) := by decide +kernel
theorem dX7_clear_27 : decode cX7_clear 27 = .ok (.iastore, 1) := by decide +kernel
theorem dX7_clear_28 : decode cX7_clear 28 = .ok (.iinc 1 1, 3) := by decide +kernel
theorem dX7_clear_31 : decode cX7_clear 31 = .ok (.goto (-19), 3) := by decide +kernel
theorem dX7_clear_34 : decode cX7_clear 34 = .ok (.aload_n 0, 1) := by decide +kernel
theorem dX7_clear_35 : decode cX7_clear 35 = .ok (.iconst 0, 1) := by decide +kernel
theorem dX7_clear_36 : decode cX7_clear 36 = .ok (.putfield 28, 3) := by decide +kernel
theorem dX7_clear_39 : decode cX7_clear 39 = .ok (.aload_n 0, 1) := by decide +kernel
theorem dX7_clear_40 : decode cX7_clear 40 = .ok (.iconst 0, 1) := by decide +kernel
theorem dX7_clear_41 : decode cX7_clear 41 = .ok (.putfield 31, 3) := by decide +kernel
theorem dX7_clear_44 : decode cX7_clear 44 = .ok (.aload_n 0, 1) := by decide +kernel
theorem dX7_clear_45 : decode cX7_clear 45 = .ok (.bipush 99, 2) := by decide +kernel
theorem dX7_clear_47 : decode cX7_clear 47 = .ok (.putfield 34, 3) := by decide +kernel
theorem dX7_clear_50 : decode cX7_clear 50 = .ok (.return_, 1) := by decide +kernel
theorem dX7_copyFrom_0 : decode cX7_copyFrom 0 = .ok (.aload_n 0, 1) := by decide +kernel
theorem dX7_copyFrom_1 : decode cX7_copyFrom 1 = .ok (.aload_n 1, 1) := by decide +kernel
theorem dX7_copyFrom_2 : decode cX7_copyFrom 2 = .ok (.getfield 9, 3) := by decide +kernel
theorem dX7_copyFrom_5 : decode cX7_copyFrom 5 = .ok (.putfield 9, 3) := by decide +kernel
theorem dX7_copyFrom_8 : decode cX7_copyFrom 8 = .ok (.aload_n 0, 1) := by decide +kernel
theorem dX7_copyFrom_9 : decode cX7_copyFrom 9 = .ok (.aload_n 1, 1) := by decide +kernel
theorem dX7_copyFrom_10 : decode cX7_copyFrom 10 = .ok (.getfield 15, 3) := by decide +kernel
theorem dX7_copyFrom_13 : decode cX7_copyFrom 13 = .ok (.putfield 15, 3) := by decide +kernel
theorem dX7_copyFrom_16 : decode cX7_copyFrom 16 = .ok (.iconst 0, 1) := by decide +kernel
theorem dX7_copyFrom_17 : decode cX7_copyFrom 17 = .ok (.istore_n 2, 1) := by decide +kernel
theorem dX7_copyFrom_18 : decode cX7_copyFrom 18 = .ok (.iload_n 2, 1) := by decide +kernel
theorem dX7_copyFrom_19 : decode cX7_copyFrom 19 = .ok (.bipush 11, 2) := by decide +kernel
theorem dX7_copyFrom_21 : decode cX7_copyFrom 21 = .ok (.if_icmp .ge 21, 3) := by decide +kernel
theorem dX7_copyFrom_24 : decode cX7_copyFrom 24 = .ok (.aload_n 0, 1) := by decide +kernel
theorem dX7_copyFrom_25 : decode cX7_copyFrom 25 = .ok (.getfield 18, 3) := by decide +kernel
theorem dX7_copyFrom_28 : decode cX7_copyFrom 28 = .ok (.iload_n 2, 1) := by decide +kernel
theorem dX7_copyFrom_29 : decode cX7_copyFrom 29 = .ok (.aload_n 1, 1) := by decide +kernel
theorem dX7_copyFrom_30 : decode cX7_copyFrom 30 = .ok (.getfield 18, 3) := by decide +kernel
theorem dX7_copyFrom_33 : decode cX7_copyFrom 33 = .ok (.iload_n 2, 1) := by decide +kernel
theorem dX7_copyFrom_34 : decode cX7_copyFrom 34 = .ok (.iaload, 1) := by decide +kernel
theorem dX7_copyFrom_35 : decode cX7_copyFrom 35 = .ok (.iastore, 1) := by decide +kernel
theorem dX7_copyFrom_36 : decode cX7_copyFrom 36 = .ok (.iinc 2 1, 3) := by decide +kernel
theorem dX7_copyFrom_39 : decode cX7_copyFrom 39 = .ok (.goto (-21), 3) := by decide +kernel
theorem dX7_copyFrom_42 : decode cX7_copyFrom 42 = .ok (.iconst 0, 1) := by decide +kernel
theorem dX7_copyFrom_43 : decode cX7_copyFrom 43 = .ok (.istore_n 2, 1) := by decide +kernel
theorem dX7_copyFrom_44 : decode cX7_copyFrom 44 = .ok (.iload_n 2, 1) := by decide +kernel
theorem dX7_copyFrom_45 : decode cX7_copyFrom 45 = .ok (.bipush 10, 2) := by decide +kernel
theorem dX7_copyFrom_47 : decode cX7_copyFrom 47 = .ok (.if_icmp .ge 33, 3) := by decide +kernel
theorem dX7_copyFrom_50 : decode cX7_copyFrom 50 = .ok (.aload_n 0, 1) := by decide +kernel
theorem dX7_copyFrom_51 : decode cX7_copyFrom 51 = .ok (.getfield 22, 3) := by decide +kernel
theorem dX7_copyFrom_54 : decode cX7_copyFrom 54 = .ok (.iload_n 2, 1) := by decide +kernel
theorem dX7_copyFrom_55 : decode cX7_copyFrom 55 = .ok (.aload_n 1, 1) := by decide +kernel
theorem dX7_copyFrom_56 : decode cX7_copyFrom 56 = .ok (.getfield 22, 3) := by decide +kernel
theorem dX7_copyFrom_59 : decode cX7_copyFrom 59 = .ok (.iload_n 2, 1) := by decide +kernel
theorem dX7_copyFrom_60 : decode cX7_copyFrom 60 = .ok (.iaload, 1) := by decide +kernel
theorem dX7_copyFrom_61 : decode cX7_copyFrom 61 = .ok (.iastore, 1) := by decide +kernel
theorem dX7_copyFrom_62 : decode cX7_copyFrom 62 = .ok (.aload_n 0, 1) := by decide +kernel
theorem dX7_copyFrom_63 : decode cX7_copyFrom 63 = .ok (.getfield 25, 3) := by decide +kernel
theorem dX7_copyFrom_66 : decode cX7_copyFrom 66 = .ok (.iload_n 2, 1) := by decide +kernel
theorem dX7_copyFrom_67 : decode cX7_copyFrom 67 = .ok (.aload_n 1, 1) := by decide +kernel
theorem dX7_copyFrom_68 : decode cX7_copyFrom 68 = .ok (.getfield 25, 3) := by decide +kernel
theorem dX7_copyFrom_71 : decode cX7_copyFrom 71 = .ok (.iload_n 2, 1) := by decide +kernel
theorem dX7_copyFrom_72 : decode cX7_copyFrom 72 = .ok (.iaload, 1) := by decide +kernel
theorem dX7_copyFrom_73 : decode cX7_copyFrom 73 = .ok (.iastore, 1) := by decide +kernel
theorem dX7_copyFrom_74 : decode cX7_copyFrom 74 = .ok (.iinc 2 1, 3) := by decide +kernel
theorem dX7_copyFrom_77 : decode cX7_copyFrom 77 = .ok (.goto (-33), 3) := by decide +kernel
theorem dX7_copyFrom_80 : decode cX7_copyFrom 80 = .ok (.aload_n 0, 1) := by decide +kernel
theorem dX7_copyFrom_81 : decode cX7_copyFrom 81 = .ok (.aload_n 1, 1) := by decide +kernel
theorem dX7_copyFrom_82 : decode cX7_copyFrom 82 = .ok (.getfield 28, 3) := by decide +kernel
theorem dX7_copyFrom_85 : decode cX7_copyFrom 85 = .ok (.putfield 28, 3) := by decide +kernel
theorem dX7_copyFrom_88 : decode cX7_copyFrom 88 = .ok (.aload_n 0, 1) := by decide +kernel
theorem dX7_copyFrom_89 : decode cX7_copyFrom 89 = .ok (.aload_n 1, 1) := by decide +kernel
theorem dX7_copyFrom_90 : decode cX7_copyFrom 90 = .ok (.getfield 31, 3) := by decide +kernel
theorem dX7_copyFrom_93 : decode cX7_copyFrom 93 = .ok (.putfield 31, 3) := by decide +kernel
theorem dX7_copyFrom_96 : decode cX7_copyFrom 96 = .ok (.aload_n 0, 1) := by decide +kernel
theorem dX7_copyFrom_97 : decode cX7_copyFrom 97 = .ok (.aload_n 1, 1) := by decide +kernel
theorem dX7_copyFrom_98 : decode cX7_copyFrom 98 = .ok (.getfield 34, 3) := by decide +kernel
theorem dX7_copyFrom_101 : decode cX7_copyFrom 101 = .ok (.putfield 34, 3) := by decide +kernel
theorem dX7_copyFrom_104 : decode cX7_copyFrom 104 = .ok (.return_, 1) := by decide +kernel
theorem dX7_has_0 : decode cX7_has 0 = .ok (.iload_n 1, 1) := by decide +kernel
theorem dX7_has_1 : decode cX7_has 1 = .ok (.ifCond .lt 27, 3) := by decide +kernel
theorem dX7_has_4 : decode cX7_has 4 = .ok (.iload_n 1, 1) := by decide +kernel
theorem dX7_has_5 : decode cX7_has 5 = .ok (.aload_n 0, 1) := by decide +kernel
theorem dX7_has_6 : decode cX7_has 6 = .ok (.getfield 9, 3) := by decide +kernel
theorem dX7_has_9 : decode cX7_has 9 = .ok (.if_icmp .ge 19, 3) := by decide +kernel
theorem dX7_has_12 : decode cX7_has 12 = .ok (.iload_n 2, 1) := by decide +kernel
theorem dX7_has_13 : decode cX7_has 13 = .ok (.ifCond .lt 15, 3) := by decide +kernel
theorem dX7_has_16 : decode cX7_has 16 = .ok (.iload_n 2, 1) := by decide +kernel
theorem dX7_has_17 : decode cX7_has 17 = .ok (.aload_n 0, 1) := by decide +kernel
theorem dX7_has_18 : decode cX7_has 18 = .ok (.getfield 15, 3) := by decide +kernel
theorem dX7_has_21 : decode cX7_has 21 = .ok (.if_icmp .ge 7, 3) := by decide +kernel
theorem dX7_has_24 : decode cX7_has 24 = .ok (.iconst 1, 1) := by decide +kernel
theorem dX7_has_25 : decode cX7_has 25 = .ok (.goto 4, 3) := by decide +kernel
theorem dX7_has_28 : decode cX7_has 28 = .ok (.iconst 0, 1) := by decide +kernel
theorem dX7_has_29 : decode cX7_has 29 = .ok (.ireturn, 1) := by decide +kernel
theorem dX7_edgeAt_0 : decode cX7_edgeAt 0 = .ok (.aload_n 0, 1) := by decide +kernel
theorem dX7_edgeAt_1 : decode cX7_edgeAt 1 = .ok (.iload_n 1, 1) := by decide +kernel
theorem dX7_edgeAt_2 : decode cX7_edgeAt 2 = .ok (.iload_n 2, 1) := by decide +kernel
theorem dX7_edgeAt_3 : decode cX7_edgeAt 3 = .ok (.invokevirtual 37, 3) := by decide +kernel
theorem dX7_edgeAt_6 : decode cX7_edgeAt 6 = .ok (.ifCond .eq 16, 3) := by decide +kernel
theorem dX7_edgeAt_9 : decode cX7_edgeAt 9 = .ok (.aload_n 0, 1) := by decide +kernel
theorem dX7_edgeAt_10 : decode cX7_edgeAt 10 = .ok (.getfield 18, 3) := by decide +kernel
theorem dX7_edgeAt_13 : decode cX7_edgeAt 13 = .ok (.iload_n 2, 1) := by decide +kernel
theorem dX7_edgeAt_14 : decode cX7_edgeAt 14 = .ok (.iaload, 1) := by decide +kernel
theorem dX7_edgeAt_15 : decode cX7_edgeAt 15 = .ok (.iload_n 1, 1) := by decide +kernel
theorem dX7_edgeAt_16 : decode cX7_edgeAt 16 = .ok (.ishr, 1) := by decide +kernel
theorem dX7_edgeAt_17 : decode cX7_edgeAt 17 = .ok (.iconst 1, 1) := by decide +kernel
theorem dX7_edgeAt_18 : decode cX7_edgeAt 18 = .ok (.iand, 1) := by decide +kernel
theorem dX7_edgeAt_19 : decode cX7_edgeAt 19 = .ok (.goto 4, 3) := by decide +kernel
theorem dX7_edgeAt_22 : decode cX7_edgeAt 22 = .ok (.iconst 0, 1) := by decide +kernel
theorem dX7_edgeAt_23 : decode cX7_edgeAt 23 = .ok (.ireturn, 1) := by decide +kernel
theorem dX7_flipEdge_0 : decode cX7_flipEdge 0 = .ok (.aload_n 0, 1) := by decide +kernel
theorem dX7_flipEdge_1 : decode cX7_flipEdge 1 = .ok (.iload_n 1, 1) := by decide +kernel
theorem dX7_flipEdge_2 : decode cX7_flipEdge 2 = .ok (.iload_n 2, 1) := by decide +kernel
theorem dX7_flipEdge_3 : decode cX7_flipEdge 3 = .ok (.invokevirtual 37, 3) := by decide +kernel
theorem dX7_flipEdge_6 : decode cX7_flipEdge 6 = .ok (.ifCond .eq 15, 3) := by decide +kernel
theorem dX7_flipEdge_9 : decode cX7_flipEdge 9 = .ok (.aload_n 0, 1) := by decide +kernel
theorem dX7_flipEdge_10 : decode cX7_flipEdge 10 = .ok (.getfield 18, 3) := by decide +kernel
theorem dX7_flipEdge_13 : decode cX7_flipEdge 13 = .ok (.iload_n 2, 1) := by decide +kernel
theorem dX7_flipEdge_14 : decode cX7_flipEdge 14 = .ok (.dup2, 1) := by decide +kernel
theorem dX7_flipEdge_15 : decode cX7_flipEdge 15 = .ok (.iaload, 1) := by decide +kernel
theorem dX7_flipEdge_16 : decode cX7_flipEdge 16 = .ok (.iconst 1, 1) := by decide +kernel
theorem dX7_flipEdge_17 : decode cX7_flipEdge 17 = .ok (.iload_n 1, 1) := by decide +kernel
theorem dX7_flipEdge_18 : decode cX7_flipEdge 18 = .ok (.ishl, 1) := by decide +kernel
theorem dX7_flipEdge_19 : decode cX7_flipEdge 19 = .ok (.ixor, 1) := by decide +kernel
theorem dX7_flipEdge_20 : decode cX7_flipEdge 20 = .ok (.iastore, 1) := by decide +kernel
theorem dX7_flipEdge_21 : decode cX7_flipEdge 21 = .ok (.return_, 1) := by decide +kernel
theorem dX7_clearEdges_0 : decode cX7_clearEdges 0 = .ok (.iconst 0, 1) := by decide +kernel
theorem dX7_clearEdges_1 : decode cX7_clearEdges 1 = .ok (.istore_n 2, 1) := by decide +kernel
theorem dX7_clearEdges_2 : decode cX7_clearEdges 2 = .ok (.iload_n 2, 1) := by decide +kernel
theorem dX7_clearEdges_3 : decode cX7_clearEdges 3 = .ok (.aload_n 0, 1) := by decide +kernel
theorem dX7_clearEdges_4 : decode cX7_clearEdges 4 = .ok (.getfield 18, 3) := by decide +kernel
theorem dX7_clearEdges_7 : decode cX7_clearEdges 7 = .ok (.arraylength, 1) := by decide +kernel
theorem dX7_clearEdges_8 : decode cX7_clearEdges 8 = .ok (.if_icmp .ge 29, 3) := by decide +kernel
theorem dX7_clearEdges_11 : decode cX7_clearEdges 11 = .ok (.iload_n 2, 1) := by decide +kernel
theorem dX7_clearEdges_12 : decode cX7_clearEdges 12 = .ok (.aload_n 1, 1) := by decide +kernel
theorem dX7_clearEdges_13 : decode cX7_clearEdges 13 = .ok (.arraylength, 1) := by decide +kernel
theorem dX7_clearEdges_14 : decode cX7_clearEdges 14 = .ok (.if_icmp .ge 23, 3) := by decide +kernel
theorem dX7_clearEdges_17 : decode cX7_clearEdges 17 = .ok (.aload_n 0, 1) := by decide +kernel
theorem dX7_clearEdges_18 : decode cX7_clearEdges 18 = .ok (.getfield 18, 3) := by decide +kernel
theorem dX7_clearEdges_21 : decode cX7_clearEdges 21 = .ok (.iload_n 2, 1) := by decide +kernel
theorem dX7_clearEdges_22 : decode cX7_clearEdges 22 = .ok (.dup2, 1) := by decide +kernel
theorem dX7_clearEdges_23 : decode cX7_clearEdges 23 = .ok (.iaload, 1) := by decide +kernel
theorem dX7_clearEdges_24 : decode cX7_clearEdges 24 = .ok (.aload_n 1, 1) := by decide +kernel
theorem dX7_clearEdges_25 : decode cX7_clearEdges 25 = .ok (.iload_n 2, 1) := by decide +kernel
theorem dX7_clearEdges_26 : decode cX7_clearEdges 26 = .ok (.iaload, 1) := by decide +kernel
theorem dX7_clearEdges_27 : decode cX7_clearEdges 27 = .ok (.iconst (-1), 1) := by decide +kernel
theorem dX7_clearEdges_28 : decode cX7_clearEdges 28 = .ok (.ixor, 1) := by decide +kernel
theorem dX7_clearEdges_29 : decode cX7_clearEdges 29 = .ok (.iand, 1) := by decide +kernel
theorem dX7_clearEdges_30 : decode cX7_clearEdges 30 = .ok (.iastore, 1) := by decide +kernel
theorem dX7_clearEdges_31 : decode cX7_clearEdges 31 = .ok (.iinc 2 1, 3) := by decide +kernel
theorem dX7_clearEdges_34 : decode cX7_clearEdges 34 = .ok (.goto (-32), 3) := by decide +kernel
theorem dX7_clearEdges_37 : decode cX7_clearEdges 37 = .ok (.return_, 1) := by decide +kernel
theorem dX7_edges_0 : decode cX7_edges 0 = .ok (.iconst 0, 1) := by decide +kernel
theorem dX7_edges_1 : decode cX7_edges 1 = .ok (.istore_n 1, 1) := by decide +kernel
theorem dX7_edges_2 : decode cX7_edges 2 = .ok (.iconst 0, 1) := by decide +kernel
theorem dX7_edges_3 : decode cX7_edges 3 = .ok (.istore_n 2, 1) := by decide +kernel
theorem dX7_edges_4 : decode cX7_edges 4 = .ok (.iload_n 2, 1) := by decide +kernel
theorem dX7_edges_5 : decode cX7_edges 5 = .ok (.aload_n 0, 1) := by decide +kernel
theorem dX7_edges_6 : decode cX7_edges 6 = .ok (.getfield 18, 3) := by decide +kernel
theorem dX7_edges_9 : decode cX7_edges 9 = .ok (.arraylength, 1) := by decide +kernel
theorem dX7_edges_10 : decode cX7_edges 10 = .ok (.if_icmp .ge 21, 3) := by decide +kernel
theorem dX7_edges_13 : decode cX7_edges 13 = .ok (.iload_n 1, 1) := by decide +kernel
theorem dX7_edges_14 : decode cX7_edges 14 = .ok (.aload_n 0, 1) := by decide +kernel
theorem dX7_edges_15 : decode cX7_edges 15 = .ok (.getfield 18, 3) := by decide +kernel
theorem dX7_edges_18 : decode cX7_edges 18 = .ok (.iload_n 2, 1) := by decide +kernel
theorem dX7_edges_19 : decode cX7_edges 19 = .ok (.iaload, 1) := by decide +kernel
theorem dX7_edges_20 : decode cX7_edges 20 = .ok (.invokestatic 41, 3) := by decide +kernel
theorem dX7_edges_23 : decode cX7_edges 23 = .ok (.iadd, 1) := by decide +kernel
theorem dX7_edges_24 : decode cX7_edges 24 = .ok (.istore_n 1, 1) := by decide +kernel
theorem dX7_edges_25 : decode cX7_edges 25 = .ok (.iinc 2 1, 3) := by decide +kernel
theorem dX7_edges_28 : decode cX7_edges 28 = .ok (.goto (-24), 3) := by decide +kernel
theorem dX7_edges_31 : decode cX7_edges 31 = .ok (.iload_n 1, 1) := by decide +kernel
theorem dX7_edges_32 : decode cX7_edges 32 = .ok (.ireturn, 1) := by decide +kernel
theorem dX7_hasDot_0 : decode cX7_hasDot 0 = .ok (.iconst 0, 1) := by decide +kernel
theorem dX7_hasDot_1 : decode cX7_hasDot 1 = .ok (.istore_n 3, 1) := by decide +kernel
theorem dX7_hasDot_2 : decode cX7_hasDot 2 = .ok (.iload_n 3, 1) := by decide +kernel
theorem dX7_hasDot_3 : decode cX7_hasDot 3 = .ok (.aload_n 0, 1) := by decide +kernel
theorem dX7_hasDot_4 : decode cX7_hasDot 4 = .ok (.getfield 28, 3) := by decide +kernel
theorem dX7_hasDot_7 : decode cX7_hasDot 7 = .ok (.if_icmp .ge 31, 3) := by decide +kernel
theorem dX7_hasDot_10 : decode cX7_hasDot 10 = .ok (.aload_n 0, 1) := by decide +kernel
theorem dX7_hasDot_11 : decode cX7_hasDot 11 = .ok (.getfield 22, 3) := by decide +kernel
theorem dX7_hasDot_14 : decode cX7_hasDot 14 = .ok (.iload_n 3, 1) := by decide +kernel
theorem dX7_hasDot_15 : decode cX7_hasDot 15 = .ok (.iaload, 1) := by decide +kernel
theorem dX7_hasDot_16 : decode cX7_hasDot 16 = .ok (.iload_n 1, 1) := by decide +kernel
theorem dX7_hasDot_17 : decode cX7_hasDot 17 = .ok (.if_icmp .ne 15, 3) := by decide +kernel
theorem dX7_hasDot_20 : decode cX7_hasDot 20 = .ok (.aload_n 0, 1) := by decide +kernel
theorem dX7_hasDot_21 : decode cX7_hasDot 21 = .ok (.getfield 25, 3) := by decide +kernel
theorem dX7_hasDot_24 : decode cX7_hasDot 24 = .ok (.iload_n 3, 1) := by decide +kernel
theorem dX7_hasDot_25 : decode cX7_hasDot 25 = .ok (.iaload, 1) := by decide +kernel
theorem dX7_hasDot_26 : decode cX7_hasDot 26 = .ok (.iload_n 2, 1) := by decide +kernel
theorem dX7_hasDot_27 : decode cX7_hasDot 27 = .ok (.if_icmp .ne 5, 3) := by decide +kernel
theorem dX7_hasDot_30 : decode cX7_hasDot 30 = .ok (.iconst 1, 1) := by decide +kernel
theorem dX7_hasDot_31 : decode cX7_hasDot 31 = .ok (.ireturn, 1) := by decide +kernel
theorem dX7_hasDot_32 : decode cX7_hasDot 32 = .ok (.iinc 3 1, 3) := by decide +kernel
theorem dX7_hasDot_35 : decode cX7_hasDot 35 = .ok (.goto (-33), 3) := by decide +kernel
theorem dX7_hasDot_38 : decode cX7_hasDot 38 = .ok (.iconst 0, 1) := by decide +kernel
theorem dX7_hasDot_39 : decode cX7_hasDot 39 = .ok (.ireturn, 1) := by decide +kernel
theorem dX7_addDot_0 : decode cX7_addDot 0 = .ok (.aload_n 0, 1) := by decide +kernel
theorem dX7_addDot_1 : decode cX7_addDot 1 = .ok (.getfield 28, 3) := by decide +kernel
theorem dX7_addDot_4 : decode cX7_addDot 4 = .ok (.bipush 10, 2) := by decide +kernel
theorem dX7_addDot_6 : decode cX7_addDot 6 = .ok (.if_icmp .ge 33, 3) := by decide +kernel
theorem dX7_addDot_9 : decode cX7_addDot 9 = .ok (.aload_n 0, 1) := by decide +kernel
theorem dX7_addDot_10 : decode cX7_addDot 10 = .ok (.getfield 22, 3) := by decide +kernel
theorem dX7_addDot_13 : decode cX7_addDot 13 = .ok (.aload_n 0, 1) := by decide +kernel
theorem dX7_addDot_14 : decode cX7_addDot 14 = .ok (.getfield 28, 3) := by decide +kernel
theorem dX7_addDot_17 : decode cX7_addDot 17 = .ok (.iload_n 1, 1) := by decide +kernel
theorem dX7_addDot_18 : decode cX7_addDot 18 = .ok (.iastore, 1) := by decide +kernel
theorem dX7_addDot_19 : decode cX7_addDot 19 = .ok (.aload_n 0, 1) := by decide +kernel
theorem dX7_addDot_20 : decode cX7_addDot 20 = .ok (.getfield 25, 3) := by decide +kernel
theorem dX7_addDot_23 : decode cX7_addDot 23 = .ok (.aload_n 0, 1) := by decide +kernel
theorem dX7_addDot_24 : decode cX7_addDot 24 = .ok (.getfield 28, 3) := by decide +kernel
theorem dX7_addDot_27 : decode cX7_addDot 27 = .ok (.iload_n 2, 1) := by decide +kernel
theorem dX7_addDot_28 : decode cX7_addDot 28 = .ok (.iastore, 1) := by decide +kernel
theorem dX7_addDot_29 : decode cX7_addDot 29 = .ok (.aload_n 0, 1) := by decide +kernel
theorem dX7_addDot_30 : decode cX7_addDot 30 = .ok (.dup, 1) := by decide +kernel
theorem dX7_addDot_31 : decode cX7_addDot 31 = .ok (.getfield 28, 3) := by decide +kernel
theorem dX7_addDot_34 : decode cX7_addDot 34 = .ok (.iconst 1, 1) := by decide +kernel
theorem dX7_addDot_35 : decode cX7_addDot 35 = .ok (.iadd, 1) := by decide +kernel
theorem dX7_addDot_36 : decode cX7_addDot 36 = .ok (.putfield 28, 3) := by decide +kernel
theorem dX7_addDot_39 : decode cX7_addDot 39 = .ok (.return_, 1) := by decide +kernel
theorem dX7_removeDot_0 : decode cX7_removeDot 0 = .ok (.iload_n 1, 1) := by decide +kernel
theorem dX7_removeDot_1 : decode cX7_removeDot 1 = .ok (.ifCond .lt 11, 3) := by decide +kernel
theorem dX7_removeDot_4 : decode cX7_removeDot 4 = .ok (.iload_n 1, 1) := by decide +kernel
theorem dX7_removeDot_5 : decode cX7_removeDot 5 = .ok (.aload_n 0, 1) := by decide +kernel
theorem dX7_removeDot_6 : decode cX7_removeDot 6 = .ok (.getfield 28, 3) := by decide +kernel
theorem dX7_removeDot_9 : decode cX7_removeDot 9 = .ok (.if_icmp .lt 4, 3) := by decide +kernel
theorem dX7_removeDot_12 : decode cX7_removeDot 12 = .ok (.return_, 1) := by decide +kernel
theorem dX7_removeDot_13 : decode cX7_removeDot 13 = .ok (.iload_n 1, 1) := by decide +kernel
theorem dX7_removeDot_14 : decode cX7_removeDot 14 = .ok (.iconst 1, 1) := by decide +kernel
theorem dX7_removeDot_15 : decode cX7_removeDot 15 = .ok (.iadd, 1) := by decide +kernel
theorem dX7_removeDot_16 : decode cX7_removeDot 16 = .ok (.istore_n 2, 1) := by decide +kernel
theorem dX7_removeDot_17 : decode cX7_removeDot 17 = .ok (.iload_n 2, 1) := by decide +kernel
theorem dX7_removeDot_18 : decode cX7_removeDot 18 = .ok (.aload_n 0, 1) := by decide +kernel
theorem dX7_removeDot_19 : decode cX7_removeDot 19 = .ok (.getfield 28, 3) := by decide +kernel
theorem dX7_removeDot_22 : decode cX7_removeDot 22 = .ok (.if_icmp .ge 37, 3) := by decide +kernel
theorem dX7_removeDot_25 : decode cX7_removeDot 25 = .ok (.aload_n 0, 1) := by decide +kernel
theorem dX7_removeDot_26 : decode cX7_removeDot 26 = .ok (.getfield 22, 3) := by decide +kernel
theorem dX7_removeDot_29 : decode cX7_removeDot 29 = .ok (.iload_n 2, 1) := by decide +kernel
theorem dX7_removeDot_30 : decode cX7_removeDot 30 = .ok (.iconst 1, 1) := by decide +kernel
theorem dX7_removeDot_31 : decode cX7_removeDot 31 = .ok (.isub, 1) := by decide +kernel
theorem dX7_removeDot_32 : decode cX7_removeDot 32 = .ok (.aload_n 0, 1) := by decide +kernel
theorem dX7_removeDot_33 : decode cX7_removeDot 33 = .ok (.getfield 22, 3) := by decide +kernel
theorem dX7_removeDot_36 : decode cX7_removeDot 36 = .ok (.iload_n 2, 1) := by decide +kernel
theorem dX7_removeDot_37 : decode cX7_removeDot 37 = .ok (.iaload, 1) := by decide +kernel
theorem dX7_removeDot_38 : decode cX7_removeDot 38 = .ok (.iastore, 1) := by decide +kernel
theorem dX7_removeDot_39 : decode cX7_removeDot 39 = .ok (.aload_n 0, 1) := by decide +kernel
theorem dX7_removeDot_40 : decode cX7_removeDot 40 = .ok (.getfield 25, 3) := by decide +kernel
theorem dX7_removeDot_43 : decode cX7_removeDot 43 = .ok (.iload_n 2, 1) := by decide +kernel
theorem dX7_removeDot_44 : decode cX7_removeDot 44 = .ok (.iconst 1, 1) := by decide +kernel
theorem dX7_removeDot_45 : decode cX7_removeDot 45 = .ok (.isub, 1) := by decide +kernel
theorem dX7_removeDot_46 : decode cX7_removeDot 46 = .ok (.aload_n 0, 1) := by decide +kernel
theorem dX7_removeDot_47 : decode cX7_removeDot 47 = .ok (.getfield 25, 3) := by decide +kernel
theorem dX7_removeDot_50 : decode cX7_removeDot 50 = .ok (.iload_n 2, 1) := by decide +kernel
theorem dX7_removeDot_51 : decode cX7_removeDot 51 = .ok (.iaload, 1) := by decide +kernel
theorem dX7_removeDot_52 : decode cX7_removeDot 52 = .ok (.iastore, 1) := by decide +kernel
theorem dX7_removeDot_53 : decode cX7_removeDot 53 = .ok (.iinc 2 1, 3) := by decide +kernel
theorem dX7_removeDot_56 : decode cX7_removeDot 56 = .ok (.goto (-39), 3) := by decide +kernel
theorem dX7_removeDot_59 : decode cX7_removeDot 59 = .ok (.aload_n 0, 1) := by decide +kernel
theorem dX7_removeDot_60 : decode cX7_removeDot 60 = .ok (.dup, 1) := by decide +kernel
theorem dX7_removeDot_61 : decode cX7_removeDot 61 = .ok (.getfield 28, 3) := by decide +kernel
theorem dX7_removeDot_64 : decode cX7_removeDot 64 = .ok (.iconst 1, 1) := by decide +kernel
theorem dX7_removeDot_65 : decode cX7_removeDot 65 = .ok (.isub, 1) := by decide +kernel
theorem dX7_removeDot_66 : decode cX7_removeDot 66 = .ok (.putfield 28, 3) := by decide +kernel
theorem dX7_removeDot_69 : decode cX7_removeDot 69 = .ok (.return_, 1) := by decide +kernel
theorem dX7_apart_0 : decode cX7_apart 0 = .ok (.iload_n 1, 1) := by decide +kernel
theorem dX7_apart_1 : decode cX7_apart 1 = .ok (.invokestatic 47, 3) := by decide +kernel
theorem dX7_apart_4 : decode cX7_apart 4 = .ok (.istore_n 3, 1) := by decide +kernel
theorem dX7_apart_5 : decode cX7_apart 5 = .ok (.iload_n 2, 1) := by decide +kernel
theorem dX7_apart_6 : decode cX7_apart 6 = .ok (.invokestatic 47, 3) := by decide +kernel
theorem dX7_apart_9 : decode cX7_apart 9 = .ok (.istore 4, 2) := by decide +kernel
theorem dX7_apart_11 : decode cX7_apart 11 = .ok (.iload_n 3, 1) := by decide +kernel
theorem dX7_apart_12 : decode cX7_apart 12 = .ok (.iload 4, 2) := by decide +kernel
theorem dX7_apart_14 : decode cX7_apart 14 = .ok (.invokestatic 52, 3) := by decide +kernel
theorem dX7_apart_17 : decode cX7_apart 17 = .ok (.istore 5, 2) := by decide +kernel
theorem dX7_apart_19 : decode cX7_apart 19 = .ok (.aload_n 0, 1) := by decide +kernel
theorem dX7_apart_20 : decode cX7_apart 20 = .ok (.getfield 31, 3) := by decide +kernel
theorem dX7_apart_23 : decode cX7_apart 23 = .ok (.lookupswitch 33 #[(0, 25), (1, 30)], 25) := by decide +kernel
theorem dX7_apart_48 : decode cX7_apart 48 = .ok (.iload_n 3, 1) := by decide +kernel
theorem dX7_apart_49 : decode cX7_apart 49 = .ok (.iload 4, 2) := by decide +kernel
theorem dX7_apart_51 : decode cX7_apart 51 = .ok (.iadd, 1) := by decide +kernel
theorem dX7_apart_52 : decode cX7_apart 52 = .ok (.ireturn, 1) := by decide +kernel
theorem dX7_apart_53 : decode cX7_apart 53 = .ok (.iload 5, 2) := by decide +kernel
theorem dX7_apart_55 : decode cX7_apart 55 = .ok (.ireturn, 1) := by decide +kernel
theorem dX7_apart_56 : decode cX7_apart 56 = .ok (.iconst 3, 1) := by decide +kernel
theorem dX7_apart_57 : decode cX7_apart 57 = .ok (.iload 5, 2) := by decide +kernel
theorem dX7_apart_59 : decode cX7_apart 59 = .ok (.imul, 1) := by decide +kernel
theorem dX7_apart_60 : decode cX7_apart 60 = .ok (.iload_n 3, 1) := by decide +kernel
theorem dX7_apart_61 : decode cX7_apart 61 = .ok (.iload 4, 2) := by decide +kernel
theorem dX7_apart_63 : decode cX7_apart 63 = .ok (.invokestatic 56, 3) := by decide +kernel
theorem dX7_apart_66 : decode cX7_apart 66 = .ok (.iadd, 1) := by decide +kernel
theorem dX7_apart_67 : decode cX7_apart 67 = .ok (.ireturn, 1) := by decide +kernel
theorem dX8_init_0 : decode cX8_init 0 = .ok (.aload_n 0, 1) := by decide +kernel
theorem dX8_init_1 : decode cX8_init 1 = .ok (.invokespecial 3, 3) := by decide +kernel
theorem dX8_init_4 : decode cX8_init 4 = .ok (.aload_n 0, 1) := by decide +kernel
theorem dX8_init_5 : decode cX8_init 5 = .ok (.sipush 200, 3) := by decide +kernel
theorem dX8_init_8 : decode cX8_init 8 = .ok (.newarray .char, 2) := by decide +kernel
theorem dX8_init_10 : decode cX8_init 10 = .ok (.putfield 9, 3) := by decide +kernel
theorem dX8_init_13 : decode cX8_init 13 = .ok (.aload_n 0, 1) := by decide +kernel
theorem dX8_init_14 : decode cX8_init 14 = .ok (.iconst 0, 1) := by decide +kernel
theorem dX8_init_15 : decode cX8_init 15 = .ok (.putfield 15, 3) := by decide +kernel
theorem dX8_init_18 : decode cX8_init 18 = .ok (.return_, 1) := by decide +kernel
theorem dX8_append_0 : decode cX8_append 0 = .ok (.aload_n 0, 1) := by decide +kernel
theorem dX8_append_1 : decode cX8_append 1 = .ok (.getfield 15, 3) := by decide +kernel
theorem dX8_append_4 : decode cX8_append 4 = .ok (.aload_n 0, 1) := by decide +kernel
theorem dX8_append_5 : decode cX8_append 5 = .ok (.getfield 9, 3) := by decide +kernel
theorem dX8_append_8 : decode cX8_append 8 = .ok (.arraylength, 1) := by decide +kernel
theorem dX8_append_9 : decode cX8_append 9 = .ok (.if_icmp .lt 5, 3) := by decide +kernel
theorem dX8_append_12 : decode cX8_append 12 = .ok (.iconst 0, 1) := by decide +kernel
theorem dX8_append_13 : decode cX8_append 13 = .ok (.ireturn, 1) := by decide +kernel
theorem dX8_append_14 : decode cX8_append 14 = .ok (.aload_n 0, 1) := by decide +kernel
theorem dX8_append_15 : decode cX8_append 15 = .ok (.getfield 9, 3) := by decide +kernel
theorem dX8_append_18 : decode cX8_append 18 = .ok (.aload_n 0, 1) := by decide +kernel
theorem dX8_append_19 : decode cX8_append 19 = .ok (.getfield 15, 3) := by decide +kernel
theorem dX8_append_22 : decode cX8_append 22 = .ok (.iload_n 1, 1) := by decide +kernel
theorem dX8_append_23 : decode cX8_append 23 = .ok (.castore, 1) := by decide +kernel
theorem dX8_append_24 : decode cX8_append 24 = .ok (.aload_n 0, 1) := by decide +kernel
theorem dX8_append_25 : decode cX8_append 25 = .ok (.dup, 1) := by decide +kernel
theorem dX8_append_26 : decode cX8_append 26 = .ok (.getfield 15, 3) := by decide +kernel
theorem dX8_append_29 : decode cX8_append 29 = .ok (.iconst 1, 1) := by decide +kernel
theorem dX8_append_30 : decode cX8_append 30 = .ok (.iadd, 1) := by decide +kernel
theorem dX8_append_31 : decode cX8_append 31 = .ok (.putfield 15, 3) := by decide +kernel
theorem dX8_append_34 : decode cX8_append 34 = .ok (.iconst 1, 1) := by decide +kernel
theorem dX8_append_35 : decode cX8_append 35 = .ok (.ireturn, 1) := by decide +kernel
theorem dX8_at_0 : decode cX8_at 0 = .ok (.iload_n 1, 1) := by decide +kernel
theorem dX8_at_1 : decode cX8_at 1 = .ok (.ifCond .lt 29, 3) := by decide +kernel
theorem dX8_at_4 : decode cX8_at 4 = .ok (.iload_n 1, 1) := by decide +kernel
theorem dX8_at_5 : decode cX8_at 5 = .ok (.aload_n 0, 1) := by decide +kernel
theorem dX8_at_6 : decode cX8_at 6 = .ok (.getfield 15, 3) := by decide +kernel
theorem dX8_at_9 : decode cX8_at 9 = .ok (.if_icmp .ge 21, 3) := by decide +kernel
theorem dX8_at_12 : decode cX8_at 12 = .ok (.iload_n 1, 1) := by decide +kernel
theorem dX8_at_13 : decode cX8_at 13 = .ok (.aload_n 0, 1) := by decide +kernel
theorem dX8_at_14 : decode cX8_at 14 = .ok (.getfield 9, 3) := by decide +kernel
theorem dX8_at_17 : decode cX8_at 17 = .ok (.arraylength, 1) := by decide +kernel
theorem dX8_at_18 : decode cX8_at 18 = .ok (.if_icmp .ge 12, 3) := by decide +kernel
theorem dX8_at_21 : decode cX8_at 21 = .ok (.aload_n 0, 1) := by decide +kernel
theorem dX8_at_22 : decode cX8_at 22 = .ok (.getfield 9, 3) := by decide +kernel
theorem dX8_at_25 : decode cX8_at 25 = .ok (.iload_n 1, 1) := by decide +kernel
theorem dX8_at_26 : decode cX8_at 26 = .ok (.caload, 1) := by decide +kernel
theorem dX8_at_27 : decode cX8_at 27 = .ok (.goto 4, 3) := by decide +kernel
theorem dX8_at_30 : decode cX8_at 30 = .ok (.iconst 0, 1) := by decide +kernel
theorem dX8_at_31 : decode cX8_at 31 = .ok (.ireturn, 1) := by decide +kernel
theorem dX9_init_0 : decode cX9_init 0 = .ok (.aload_n 0, 1) := by decide +kernel
theorem dX9_init_1 : decode cX9_init 1 = .ok (.invokespecial 3, 3) := by decide +kernel
theorem dX9_init_4 : decode cX9_init 4 = .ok (.aload_n 0, 1) := by decide +kernel
theorem dX9_init_5 : decode cX9_init 5 = .ok (.bipush 10, 2) := by decide +kernel
theorem dX9_init_7 : decode cX9_init 7 = .ok (.newarray .int, 2) := by decide +kernel
theorem dX9_init_9 : decode cX9_init 9 = .ok (.putfield 9, 3) := by decide +kernel
theorem dX9_init_12 : decode cX9_init 12 = .ok (.aload_n 0, 1) := by decide +kernel
theorem dX9_init_13 : decode cX9_init 13 = .ok (.bipush 10, 2) := by decide +kernel
theorem dX9_init_15 : decode cX9_init 15 = .ok (.newarray .int, 2) := by decide +kernel
theorem dX9_init_17 : decode cX9_init 17 = .ok (.putfield 15, 3) := by decide +kernel
theorem dX9_init_20 : decode cX9_init 20 = .ok (.aload_n 0, 1) := by decide +kernel
theorem dX9_init_21 : decode cX9_init 21 = .ok (.iconst 0, 1) := by decide +kernel
theorem dX9_init_22 : decode cX9_init 22 = .ok (.putfield 18, 3) := by decide +kernel
theorem dX9_init_25 : decode cX9_init 25 = .ok (.aload_n 0, 1) := by decide +kernel
theorem dX9_init_26 : decode cX9_init 26 = .ok (.iconst 0, 1) := by decide +kernel
theorem dX9_init_27 : decode cX9_init 27 = .ok (.putfield 22, 3) := by decide +kernel
theorem dX9_init_30 : decode cX9_init 30 = .ok (.aload_n 0, 1) := by decide +kernel
theorem dX9_init_31 : decode cX9_init 31 = .ok (.iconst 0, 1) := by decide +kernel
theorem dX9_init_32 : decode cX9_init 32 = .ok (.putfield 25, 3) := by decide +kernel
theorem dX9_init_35 : decode cX9_init 35 = .ok (.aload_n 0, 1) := by decide +kernel
theorem dX9_init_36 : decode cX9_init 36 = .ok (.iconst 0, 1) := by decide +kernel
theorem dX9_init_37 : decode cX9_init 37 = .ok (.putfield 28, 3) := by decide +kernel
theorem dX9_init_40 : decode cX9_init 40 = .ok (.aload_n 0, 1) := by decide +kernel
theorem dX9_init_41 : decode cX9_init 41 = .ok (.iconst 0, 1) := by decide +kernel
theorem dX9_init_42 : decode cX9_init 42 = .ok (.putfield 31, 3) := by decide +kernel
theorem dX9_init_45 : decode cX9_init 45 = .ok (.return_, 1) := by decide +kernel
theorem dX9_form_0 : decode cX9_form 0 = .ok (.aload_n 0, 1) := by decide +kernel
theorem dX9_form_1 : decode cX9_form 1 = .ok (.aload_n 1, 1) := by decide +kernel
theorem dX9_form_2 : decode cX9_form 2 = .ok (.getfield 34, 3) := by decide +kernel
theorem dX9_form_5 : decode cX9_form 5 = .ok (.putfield 18, 3) := by decide +kernel
theorem dX9_form_8 : decode cX9_form 8 = .ok (.iconst 0, 1) := by decide +kernel
theorem dX9_form_9 : decode cX9_form 9 = .ok (.istore 5, 2) := by decide +kernel
theorem dX9_form_11 : decode cX9_form 11 = .ok (.iload 5, 2) := by decide +kernel
theorem dX9_form_13 : decode cX9_form 13 = .ok (.aload_n 0, 1) := by decide +kernel
theorem dX9_form_14 : decode cX9_form 14 = .ok (.getfield 18, 3) := by decide +kernel
theorem dX9_form_17 : decode cX9_form 17 = .ok (.if_icmp .ge 106, 3) := by decide +kernel
theorem dX9_form_20 : decode cX9_form 20 = .ok (.iload 4, 2) := by decide +kernel
theorem dX9_form_22 : decode cX9_form 22 = .ok (.iconst 1, 1) := by decide +kernel
theorem dX9_form_23 : decode cX9_form 23 = .ok (.if_icmp .ne 14, 3) := by decide +kernel
theorem dX9_form_26 : decode cX9_form 26 = .ok (.aload_n 1, 1) := by decide +kernel
theorem dX9_form_27 : decode cX9_form 27 = .ok (.getfield 37, 3) := by decide +kernel
theorem dX9_form_30 : decode cX9_form 30 = .ok (.iload 5, 2) := by decide +kernel
theorem dX9_form_32 : decode cX9_form 32 = .ok (.iaload, 1) := by decide +kernel
theorem dX9_form_33 : decode cX9_form 33 = .ok (.ineg, 1) := by decide +kernel
theorem dX9_form_34 : decode cX9_form 34 = .ok (.goto 10, 3) := by decide +kernel
theorem dX9_form_37 : decode cX9_form 37 = .ok (.aload_n 1, 1) := by decide +kernel
theorem dX9_form_38 : decode cX9_form 38 = .ok (.getfield 37, 3) := by decide +kernel
theorem dX9_form_41 : decode cX9_form 41 = .ok (.iload 5, 2) := by decide +kernel
theorem dX9_form_43 : decode cX9_form 43 = .ok (.iaload, 1) := by decide +kernel
theorem dX9_form_44 : decode cX9_form 44 = .ok (.istore 6, 2) := by decide +kernel
theorem dX9_form_46 : decode cX9_form 46 = .ok (.aload_n 1, 1) := by decide +kernel
theorem dX9_form_47 : decode cX9_form 47 = .ok (.getfield 40, 3) := by decide +kernel
theorem dX9_form_50 : decode cX9_form 50 = .ok (.iload 5, 2) := by decide +kernel
theorem dX9_form_52 : decode cX9_form 52 = .ok (.iaload, 1) := by decide +kernel
theorem dX9_form_53 : decode cX9_form 53 = .ok (.istore 7, 2) := by decide +kernel
theorem dX9_form_55 : decode cX9_form 55 = .ok (.iconst 0, 1) := by decide +kernel
theorem dX9_form_56 : decode cX9_form 56 = .ok (.istore 8, 2) := by decide +kernel
theorem dX9_form_58 : decode cX9_form 58 = .ok (.iload 8, 2) := by decide +kernel
theorem dX9_form_60 : decode cX9_form 60 = .ok (.iload_n 3, 1) := by decide +kernel
theorem dX9_form_61 : decode cX9_form 61 = .ok (.if_icmp .ge 22, 3) := by decide +kernel
theorem dX9_form_64 : decode cX9_form 64 = .ok (.iload 6, 2) := by decide +kernel
theorem dX9_form_66 : decode cX9_form 66 = .ok (.istore 9, 2) := by decide +kernel
theorem dX9_form_68 : decode cX9_form 68 = .ok (.iload 7, 2) := by decide +kernel
theorem dX9_form_70 : decode cX9_form 70 = .ok (.ineg, 1) := by decide +kernel
theorem dX9_form_71 : decode cX9_form 71 = .ok (.istore 6, 2) := by decide +kernel
theorem dX9_form_73 : decode cX9_form 73 = .ok (.iload 9, 2) := by decide +kernel
theorem dX9_form_75 : decode cX9_form 75 = .ok (.istore 7, 2) := by decide +kernel
theorem dX9_form_77 : decode cX9_form 77 = .ok (.iinc 8 1, 3) := by decide +kernel
theorem dX9_form_80 : decode cX9_form 80 = .ok (.goto (-22), 3) := by decide +kernel
theorem dX9_form_83 : decode cX9_form 83 = .ok (.aload_n 0, 1) := by decide +kernel
theorem dX9_form_84 : decode cX9_form 84 = .ok (.getfield 9, 3) := by decide +kernel
theorem dX9_form_87 : decode cX9_form 87 = .ok (.iload 5, 2) := by decide +kernel
theorem dX9_form_89 : decode cX9_form 89 = .ok (.iload 6, 2) := by decide +kernel
theorem dX9_form_91 : decode cX9_form 91 = .ok (.iload_n 2, 1) := by decide +kernel
theorem dX9_form_92 : decode cX9_form 92 = .ok (.imul, 1) := by decide +kernel
theorem dX9_form_93 : decode cX9_form 93 = .ok (.iconst 1, 1) := by decide +kernel
theorem dX9_form_94 : decode cX9_form 94 = .ok (.iadd, 1) := by decide +kernel
theorem dX9_form_95 : decode cX9_form 95 = .ok (.iconst 2, 1) := by decide +kernel
theorem dX9_form_96 : decode cX9_form 96 = .ok (.invokestatic 43, 3) := by decide +kernel
theorem dX9_form_99 : decode cX9_form 99 = .ok (.iastore, 1) := by decide +kernel
theorem dX9_form_100 : decode cX9_form 100 = .ok (.aload_n 0, 1) := by decide +kernel
theorem dX9_form_101 : decode cX9_form 101 = .ok (.getfield 15, 3) := by decide +kernel
theorem dX9_form_104 : decode cX9_form 104 = .ok (.iload 5, 2) := by decide +kernel
theorem dX9_form_106 : decode cX9_form 106 = .ok (.iload 7, 2) := by decide +kernel
theorem dX9_form_108 : decode cX9_form 108 = .ok (.iload_n 2, 1) := by decide +kernel
theorem dX9_form_109 : decode cX9_form 109 = .ok (.imul, 1) := by decide +kernel
theorem dX9_form_110 : decode cX9_form 110 = .ok (.iconst 1, 1) := by decide +kernel
theorem dX9_form_111 : decode cX9_form 111 = .ok (.iadd, 1) := by decide +kernel
theorem dX9_form_112 : decode cX9_form 112 = .ok (.iconst 2, 1) := by decide +kernel
theorem dX9_form_113 : decode cX9_form 113 = .ok (.invokestatic 43, 3) := by decide +kernel
theorem dX9_form_116 : decode cX9_form 116 = .ok (.iastore, 1) := by decide +kernel
theorem dX9_form_117 : decode cX9_form 117 = .ok (.iinc 5 1, 3) := by decide +kernel
theorem dX9_form_120 : decode cX9_form 120 = .ok (.goto (-109), 3) := by decide +kernel
theorem dX9_form_123 : decode cX9_form 123 = .ok (.aload_n 0, 1) := by decide +kernel
theorem dX9_form_124 : decode cX9_form 124 = .ok (.invokevirtual 49, 3) := by decide +kernel
theorem dX9_form_127 : decode cX9_form 127 = .ok (.return_, 1) := by decide +kernel
theorem dX9_findBox_0 : decode cX9_findBox 0 = .ok (.aload_n 0, 1) := by decide +kernel
theorem dX9_findBox_1 : decode cX9_findBox 1 = .ok (.aload_n 0, 1) := by decide +kernel
theorem dX9_findBox_2 : decode cX9_findBox 2 = .ok (.getfield 9, 3) := by decide +kernel
theorem dX9_findBox_5 : decode cX9_findBox 5 = .ok (.iconst 0, 1) := by decide +kernel
theorem dX9_findBox_6 : decode cX9_findBox 6 = .ok (.iaload, 1) := by decide +kernel
theorem dX9_findBox_7 : decode cX9_findBox 7 = .ok (.putfield 22, 3) := by decide +kernel
theorem dX9_findBox_10 : decode cX9_findBox 10 = .ok (.aload_n 0, 1) := by decide +kernel
theorem dX9_findBox_11 : decode cX9_findBox 11 = .ok (.aload_n 0, 1) := by decide +kernel
theorem dX9_findBox_12 : decode cX9_findBox 12 = .ok (.getfield 9, 3) := by decide +kernel
theorem dX9_findBox_15 : decode cX9_findBox 15 = .ok (.iconst 0, 1) := by decide +kernel
theorem dX9_findBox_16 : decode cX9_findBox 16 = .ok (.iaload, 1) := by decide +kernel
theorem dX9_findBox_17 : decode cX9_findBox 17 = .ok (.putfield 25, 3) := by decide +kernel
theorem dX9_findBox_20 : decode cX9_findBox 20 = .ok (.aload_n 0, 1) := by decide +kernel
theorem dX9_findBox_21 : decode cX9_findBox 21 = .ok (.aload_n 0, 1) := by decide +kernel
theorem dX9_findBox_22 : decode cX9_findBox 22 = .ok (.getfield 15, 3) := by decide +kernel
theorem dX9_findBox_25 : decode cX9_findBox 25 = .ok (.iconst 0, 1) := by decide +kernel
theorem dX9_findBox_26 : decode cX9_findBox 26 = .ok (.iaload, 1) := by decide +kernel
theorem dX9_findBox_27 : decode cX9_findBox 27 = .ok (.putfield 28, 3) := by decide +kernel
theorem dX9_findBox_30 : decode cX9_findBox 30 = .ok (.aload_n 0, 1) := by decide +kernel
theorem dX9_findBox_31 : decode cX9_findBox 31 = .ok (.aload_n 0, 1) := by decide +kernel
theorem dX9_findBox_32 : decode cX9_findBox 32 = .ok (.getfield 15, 3) := by decide +kernel
theorem dX9_findBox_35 : decode cX9_findBox 35 = .ok (.iconst 0, 1) := by decide +kernel
theorem dX9_findBox_36 : decode cX9_findBox 36 = .ok (.iaload, 1) := by decide +kernel
theorem dX9_findBox_37 : decode cX9_findBox 37 = .ok (.putfield 31, 3) := by decide +kernel
theorem dX9_findBox_40 : decode cX9_findBox 40 = .ok (.iconst 1, 1) := by decide +kernel
theorem dX9_findBox_41 : decode cX9_findBox 41 = .ok (.istore_n 1, 1) := by decide +kernel
theorem dX9_findBox_42 : decode cX9_findBox 42 = .ok (.iload_n 1, 1) := by decide +kernel
theorem dX9_findBox_43 : decode cX9_findBox 43 = .ok (.aload_n 0, 1) := by decide +kernel
theorem dX9_findBox_44 : decode cX9_findBox 44 = .ok (.getfield 18, 3) := by decide +kernel
theorem dX9_findBox_47 : decode cX9_findBox 47 = .ok (.if_icmp .ge 77, 3) := by decide +kernel
theorem dX9_findBox_50 : decode cX9_findBox 50 = .ok (.aload_n 0, 1) := by decide +kernel
theorem dX9_findBox_51 : decode cX9_findBox 51 = .ok (.aload_n 0, 1) := by decide +kernel
theorem dX9_findBox_52 : decode cX9_findBox 52 = .ok (.getfield 22, 3) := by decide +kernel
theorem dX9_findBox_55 : decode cX9_findBox 55 = .ok (.aload_n 0, 1) := by decide +kernel
theorem dX9_findBox_56 : decode cX9_findBox 56 = .ok (.getfield 9, 3) := by decide +kernel
theorem dX9_findBox_59 : decode cX9_findBox 59 = .ok (.iload_n 1, 1) := by decide +kernel
theorem dX9_findBox_60 : decode cX9_findBox 60 = .ok (.iaload, 1) := by decide +kernel
theorem dX9_findBox_61 : decode cX9_findBox 61 = .ok (.invokestatic 52, 3) := by decide +kernel
theorem dX9_findBox_64 : decode cX9_findBox 64 = .ok (.putfield 22, 3) := by decide +kernel
theorem dX9_findBox_67 : decode cX9_findBox 67 = .ok (.aload_n 0, 1) := by decide +kernel
theorem dX9_findBox_68 : decode cX9_findBox 68 = .ok (.aload_n 0, 1) := by decide +kernel
theorem dX9_findBox_69 : decode cX9_findBox 69 = .ok (.getfield 25, 3) := by decide +kernel
theorem dX9_findBox_72 : decode cX9_findBox 72 = .ok (.aload_n 0, 1) := by decide +kernel
theorem dX9_findBox_73 : decode cX9_findBox 73 = .ok (.getfield 9, 3) := by decide +kernel
theorem dX9_findBox_76 : decode cX9_findBox 76 = .ok (.iload_n 1, 1) := by decide +kernel
theorem dX9_findBox_77 : decode cX9_findBox 77 = .ok (.iaload, 1) := by decide +kernel
theorem dX9_findBox_78 : decode cX9_findBox 78 = .ok (.invokestatic 55, 3) := by decide +kernel
theorem dX9_findBox_81 : decode cX9_findBox 81 = .ok (.putfield 25, 3) := by decide +kernel
theorem dX9_findBox_84 : decode cX9_findBox 84 = .ok (.aload_n 0, 1) := by decide +kernel
theorem dX9_findBox_85 : decode cX9_findBox 85 = .ok (.aload_n 0, 1) := by decide +kernel
theorem dX9_findBox_86 : decode cX9_findBox 86 = .ok (.getfield 28, 3) := by decide +kernel
theorem dX9_findBox_89 : decode cX9_findBox 89 = .ok (.aload_n 0, 1) := by decide +kernel
theorem dX9_findBox_90 : decode cX9_findBox 90 = .ok (.getfield 15, 3) := by decide +kernel
theorem dX9_findBox_93 : decode cX9_findBox 93 = .ok (.iload_n 1, 1) := by decide +kernel
theorem dX9_findBox_94 : decode cX9_findBox 94 = .ok (.iaload, 1) := by decide +kernel
theorem dX9_findBox_95 : decode cX9_findBox 95 = .ok (.invokestatic 52, 3) := by decide +kernel
theorem dX9_findBox_98 : decode cX9_findBox 98 = .ok (.putfield 28, 3) := by decide +kernel
theorem dX9_findBox_101 : decode cX9_findBox 101 = .ok (.aload_n 0, 1) := by decide +kernel
theorem dX9_findBox_102 : decode cX9_findBox 102 = .ok (.aload_n 0, 1) := by decide +kernel
theorem dX9_findBox_103 : decode cX9_findBox 103 = .ok (.getfield 31, 3) := by decide +kernel
theorem dX9_findBox_106 : decode cX9_findBox 106 = .ok (.aload_n 0, 1) := by decide +kernel
theorem dX9_findBox_107 : decode cX9_findBox 107 = .ok (.getfield 15, 3) := by decide +kernel
theorem dX9_findBox_110 : decode cX9_findBox 110 = .ok (.iload_n 1, 1) := by decide +kernel
theorem dX9_findBox_111 : decode cX9_findBox 111 = .ok (.iaload, 1) := by decide +kernel
theorem dX9_findBox_112 : decode cX9_findBox 112 = .ok (.invokestatic 55, 3) := by decide +kernel
theorem dX9_findBox_115 : decode cX9_findBox 115 = .ok (.putfield 31, 3) := by decide +kernel
theorem dX9_findBox_118 : decode cX9_findBox 118 = .ok (.iinc 1 1, 3) := by decide +kernel
theorem dX9_findBox_121 : decode cX9_findBox 121 = .ok (.goto (-79), 3) := by decide +kernel
theorem dX9_findBox_124 : decode cX9_findBox 124 = .ok (.return_, 1) := by decide +kernel
theorem dX9_isInside_0 : decode cX9_isInside 0 = .ok (.iload_n 3, 1) := by decide +kernel
theorem dX9_isInside_1 : decode cX9_isInside 1 = .ok (.aload_n 0, 1) := by decide +kernel
theorem dX9_isInside_2 : decode cX9_isInside 2 = .ok (.getfield 22, 3) := by decide +kernel
theorem dX9_isInside_5 : decode cX9_isInside 5 = .ok (.iadd, 1) := by decide +kernel
