theorem dX12_looks_171 : decode cX12_looks 171 = .ok (.ireturn, 1) := by decide +kernel
theorem dX12_pose_0 : decode cX12_pose 0 = .ok (.aload_n 0, 1) := by decide +kernel
theorem dX12_pose_1 : decode cX12_pose 1 = .ok (.iload_n 1, 1) := by decide +kernel
theorem dX12_pose_2 : decode cX12_pose 2 = .ok (.iload_n 2, 1) := by decide +kernel
theorem dX12_pose_3 : decode cX12_pose 3 = .ok (.invokevirtual 120, 3) := by decide +kernel
theorem dX12_pose_6 : decode cX12_pose 6 = .ok (.ifCond .eq 12, 3) := by decide +kernel
theorem dX12_pose_9 : decode cX12_pose 9 = .ok (.iload_n 3, 1) := by decide +kernel
theorem dX12_pose_10 : decode cX12_pose 10 = .ok (.iconst 0, 1) := by decide +kernel
theorem dX12_pose_11 : decode cX12_pose 11 = .ok (.iconst 3, 1) := by decide +kernel
theorem dX12_pose_12 : decode cX12_pose 12 = .ok (.invokestatic 58, 3) := by decide +kernel
theorem dX12_pose_15 : decode cX12_pose 15 = .ok (.ifCond .ne 5, 3) := by decide +kernel
theorem dX12_pose_18 : decode cX12_pose 18 = .ok (.iconst (-1), 1) := by decide +kernel
theorem dX12_pose_19 : decode cX12_pose 19 = .ok (.ireturn, 1) := by decide +kernel
theorem dX12_pose_20 : decode cX12_pose 20 = .ok (.aload_n 0, 1) := by decide +kernel
theorem dX12_pose_21 : decode cX12_pose 21 = .ok (.invokevirtual 161, 3) := by decide +kernel
theorem dX12_pose_24 : decode cX12_pose 24 = .ok (.aload_n 0, 1) := by decide +kernel
theorem dX12_pose_25 : decode cX12_pose 25 = .ok (.iload_n 1, 1) := by decide +kernel
theorem dX12_pose_26 : decode cX12_pose 26 = .ok (.iload_n 2, 1) := by decide +kernel
theorem dX12_pose_27 : decode cX12_pose 27 = .ok (.aload_n 0, 1) := by decide +kernel
theorem dX12_pose_28 : decode cX12_pose 28 = .ok (.getfield 19, 3) := by decide +kernel
theorem dX12_pose_31 : decode cX12_pose 31 = .ok (.aload_n 0, 1) := by decide +kernel
theorem dX12_pose_32 : decode cX12_pose 32 = .ok (.getfield 108, 3) := by decide +kernel
theorem dX12_pose_35 : decode cX12_pose 35 = .ok (.aload_n 0, 1) := by decide +kernel
theorem dX12_pose_36 : decode cX12_pose 36 = .ok (.getfield 111, 3) := by decide +kernel
theorem dX12_pose_39 : decode cX12_pose 39 = .ok (.invokevirtual 164, 3) := by decide +kernel
theorem dX12_pose_42 : decode cX12_pose 42 = .ok (.ifCond .ne 6, 3) := by decide +kernel
theorem dX12_pose_45 : decode cX12_pose 45 = .ok (.bipush (-4), 2) := by decide +kernel
theorem dX12_pose_47 : decode cX12_pose 47 = .ok (.ireturn, 1) := by decide +kernel
theorem dX12_pose_48 : decode cX12_pose 48 = .ok (.iload_n 3, 1) := by decide +kernel
theorem dX12_pose_49 : decode cX12_pose 49 = .ok (.ifCond .ne 10, 3) := by decide +kernel
theorem dX12_pose_52 : decode cX12_pose 52 = .ok (.aload_n 0, 1) := by decide +kernel
theorem dX12_pose_53 : decode cX12_pose 53 = .ok (.getfield 149, 3) := by decide +kernel
theorem dX12_pose_56 : decode cX12_pose 56 = .ok (.goto 31, 3) := by decide +kernel
theorem dX12_pose_59 : decode cX12_pose 59 = .ok (.iload_n 3, 1) := by decide +kernel
theorem dX12_pose_60 : decode cX12_pose 60 = .ok (.iconst 1, 1) := by decide +kernel
theorem dX12_pose_61 : decode cX12_pose 61 = .ok (.if_icmp .ne 10, 3) := by decide +kernel
theorem dX12_pose_64 : decode cX12_pose 64 = .ok (.aload_n 0, 1) := by decide +kernel
theorem dX12_pose_65 : decode cX12_pose 65 = .ok (.getfield 152, 3) := by decide +kernel
theorem dX12_pose_68 : decode cX12_pose 68 = .ok (.goto 19, 3) := by decide +kernel
theorem dX12_pose_71 : decode cX12_pose 71 = .ok (.iload_n 3, 1) := by decide +kernel
theorem dX12_pose_72 : decode cX12_pose 72 = .ok (.iconst 2, 1) := by decide +kernel
theorem dX12_pose_73 : decode cX12_pose 73 = .ok (.if_icmp .ne 10, 3) := by decide +kernel
theorem dX12_pose_76 : decode cX12_pose 76 = .ok (.aload_n 0, 1) := by decide +kernel
theorem dX12_pose_77 : decode cX12_pose 77 = .ok (.getfield 158, 3) := by decide +kernel
theorem dX12_pose_80 : decode cX12_pose 80 = .ok (.goto 7, 3) := by decide +kernel
theorem dX12_pose_83 : decode cX12_pose 83 = .ok (.aload_n 0, 1) := by decide +kernel
theorem dX12_pose_84 : decode cX12_pose 84 = .ok (.getfield 155, 3) := by decide +kernel
theorem dX12_pose_87 : decode cX12_pose 87 = .ok (.ireturn, 1) := by decide +kernel
theorem dX12_fits_0 : decode cX12_fits 0 = .ok (.iconst 0, 1) := by decide +kernel
theorem dX12_fits_1 : decode cX12_fits 1 = .ok (.istore_n 1, 1) := by decide +kernel
theorem dX12_fits_2 : decode cX12_fits 2 = .ok (.iconst 0, 1) := by decide +kernel
theorem dX12_fits_3 : decode cX12_fits 3 = .ok (.istore_n 2, 1) := by decide +kernel
theorem dX12_fits_4 : decode cX12_fits 4 = .ok (.iload_n 2, 1) := by decide +kernel
theorem dX12_fits_5 : decode cX12_fits 5 = .ok (.bipush 121, 2) := by decide +kernel
theorem dX12_fits_7 : decode cX12_fits 7 = .ok (.if_icmp .ge 59, 3) := by decide +kernel
theorem dX12_fits_10 : decode cX12_fits 10 = .ok (.iload_n 1, 1) := by decide +kernel
theorem dX12_fits_11 : decode cX12_fits 11 = .ok (.aload_n 0, 1) := by decide +kernel
theorem dX12_fits_12 : decode cX12_fits 12 = .ok (.iload_n 2, 1) := by decide +kernel
theorem dX12_fits_13 : decode cX12_fits 13 = .ok (.bipush 11, 2) := by decide +kernel
theorem dX12_fits_15 : decode cX12_fits 15 = .ok (.irem, 1) := by decide +kernel
theorem dX12_fits_16 : decode cX12_fits 16 = .ok (.iload_n 2, 1) := by decide +kernel
theorem dX12_fits_17 : decode cX12_fits 17 = .ok (.bipush 11, 2) := by decide +kernel
theorem dX12_fits_19 : decode cX12_fits 19 = .ok (.idiv, 1) := by decide +kernel
theorem dX12_fits_20 : decode cX12_fits 20 = .ok (.invokevirtual 120, 3) := by decide +kernel
theorem dX12_fits_23 : decode cX12_fits 23 = .ok (.ifCond .eq 34, 3) := by decide +kernel
theorem dX12_fits_26 : decode cX12_fits 26 = .ok (.aload_n 0, 1) := by decide +kernel
theorem dX12_fits_27 : decode cX12_fits 27 = .ok (.iload_n 2, 1) := by decide +kernel
theorem dX12_fits_28 : decode cX12_fits 28 = .ok (.bipush 11, 2) := by decide +kernel
theorem dX12_fits_30 : decode cX12_fits 30 = .ok (.irem, 1) := by decide +kernel
theorem dX12_fits_31 : decode cX12_fits 31 = .ok (.iload_n 2, 1) := by decide +kernel
theorem dX12_fits_32 : decode cX12_fits 32 = .ok (.bipush 11, 2) := by decide +kernel
theorem dX12_fits_34 : decode cX12_fits 34 = .ok (.idiv, 1) := by decide +kernel
theorem dX12_fits_35 : decode cX12_fits 35 = .ok (.aload_n 0, 1) := by decide +kernel
theorem dX12_fits_36 : decode cX12_fits 36 = .ok (.getfield 19, 3) := by decide +kernel
theorem dX12_fits_39 : decode cX12_fits 39 = .ok (.aload_n 0, 1) := by decide +kernel
theorem dX12_fits_40 : decode cX12_fits 40 = .ok (.getfield 108, 3) := by decide +kernel
theorem dX12_fits_43 : decode cX12_fits 43 = .ok (.aload_n 0, 1) := by decide +kernel
theorem dX12_fits_44 : decode cX12_fits 44 = .ok (.getfield 111, 3) := by decide +kernel
theorem dX12_fits_47 : decode cX12_fits 47 = .ok (.invokevirtual 164, 3) := by decide +kernel
theorem dX12_fits_50 : decode cX12_fits 50 = .ok (.ifCond .eq 7, 3) := by decide +kernel
theorem dX12_fits_53 : decode cX12_fits 53 = .ok (.iconst 1, 1) := by decide +kernel
theorem dX12_fits_54 : decode cX12_fits 54 = .ok (.goto 4, 3) := by decide +kernel
theorem dX12_fits_57 : decode cX12_fits 57 = .ok (.iconst 0, 1) := by decide +kernel
theorem dX12_fits_58 : decode cX12_fits 58 = .ok (.iadd, 1) := by decide +kernel
theorem dX12_fits_59 : decode cX12_fits 59 = .ok (.istore_n 1, 1) := by decide +kernel
theorem dX12_fits_60 : decode cX12_fits 60 = .ok (.iinc 2 1, 3) := by decide +kernel
theorem dX12_fits_63 : decode cX12_fits 63 = .ok (.goto (-59), 3) := by decide +kernel
theorem dX12_fits_66 : decode cX12_fits 66 = .ok (.iload_n 1, 1) := by decide +kernel
theorem dX12_fits_67 : decode cX12_fits 67 = .ok (.ireturn, 1) := by decide +kernel
theorem dX12_bound_0 : decode cX12_bound 0 = .ok (.aload_n 0, 1) := by decide +kernel
theorem dX12_bound_1 : decode cX12_bound 1 = .ok (.iload_n 1, 1) := by decide +kernel
theorem dX12_bound_2 : decode cX12_bound 2 = .ok (.iload_n 2, 1) := by decide +kernel
theorem dX12_bound_3 : decode cX12_bound 3 = .ok (.invokevirtual 120, 3) := by decide +kernel
theorem dX12_bound_6 : decode cX12_bound 6 = .ok (.ifCond .eq 13, 3) := by decide +kernel
theorem dX12_bound_9 : decode cX12_bound 9 = .ok (.iload_n 3, 1) := by decide +kernel
theorem dX12_bound_10 : decode cX12_bound 10 = .ok (.iconst 1, 1) := by decide +kernel
theorem dX12_bound_11 : decode cX12_bound 11 = .ok (.bipush 11, 2) := by decide +kernel
theorem dX12_bound_13 : decode cX12_bound 13 = .ok (.invokestatic 58, 3) := by decide +kernel
theorem dX12_bound_16 : decode cX12_bound 16 = .ok (.ifCond .ne 5, 3) := by decide +kernel
theorem dX12_bound_19 : decode cX12_bound 19 = .ok (.iconst (-1), 1) := by decide +kernel
theorem dX12_bound_20 : decode cX12_bound 20 = .ok (.ireturn, 1) := by decide +kernel
theorem dX12_bound_21 : decode cX12_bound 21 = .ok (.aload_n 0, 1) := by decide +kernel
theorem dX12_bound_22 : decode cX12_bound 22 = .ok (.invokevirtual 161, 3) := by decide +kernel
theorem dX12_bound_25 : decode cX12_bound 25 = .ok (.iconst 0, 1) := by decide +kernel
theorem dX12_bound_26 : decode cX12_bound 26 = .ok (.istore 4, 2) := by decide +kernel
theorem dX12_bound_28 : decode cX12_bound 28 = .ok (.iconst 0, 1) := by decide +kernel
theorem dX12_bound_29 : decode cX12_bound 29 = .ok (.istore 5, 2) := by decide +kernel
theorem dX12_bound_31 : decode cX12_bound 31 = .ok (.iload 5, 2) := by decide +kernel
theorem dX12_bound_33 : decode cX12_bound 33 = .ok (.aload_n 0, 1) := by decide +kernel
theorem dX12_bound_34 : decode cX12_bound 34 = .ok (.getfield 7, 3) := by decide +kernel
theorem dX12_bound_37 : decode cX12_bound 37 = .ok (.sipush 141, 3) := by decide +kernel
theorem dX12_bound_40 : decode cX12_bound 40 = .ok (.iaload, 1) := by decide +kernel
theorem dX12_bound_41 : decode cX12_bound 41 = .ok (.if_icmp .ge 167, 3) := by decide +kernel
theorem dX12_bound_44 : decode cX12_bound 44 = .ok (.ldc 168, 2) := by decide +kernel
theorem dX12_bound_46 : decode cX12_bound 46 = .ok (.istore 6, 2) := by decide +kernel
theorem dX12_bound_48 : decode cX12_bound 48 = .ok (.iconst 0, 1) := by decide +kernel
theorem dX12_bound_49 : decode cX12_bound 49 = .ok (.istore 7, 2) := by decide +kernel
theorem dX12_bound_51 : decode cX12_bound 51 = .ok (.iload 7, 2) := by decide +kernel
theorem dX12_bound_53 : decode cX12_bound 53 = .ok (.iload_n 3, 1) := by decide +kernel
theorem dX12_bound_54 : decode cX12_bound 54 = .ok (.iload_n 3, 1) := by decide +kernel
theorem dX12_bound_55 : decode cX12_bound 55 = .ok (.imul, 1) := by decide +kernel
theorem dX12_bound_56 : decode cX12_bound 56 = .ok (.if_icmp .ge 129, 3) := by decide +kernel
theorem dX12_bound_59 : decode cX12_bound 59 = .ok (.iload_n 1, 1) := by decide +kernel
theorem dX12_bound_60 : decode cX12_bound 60 = .ok (.iload 7, 2) := by decide +kernel
theorem dX12_bound_62 : decode cX12_bound 62 = .ok (.iload_n 3, 1) := by decide +kernel
theorem dX12_bound_63 : decode cX12_bound 63 = .ok (.irem, 1) := by decide +kernel
theorem dX12_bound_64 : decode cX12_bound 64 = .ok (.iadd, 1) := by decide +kernel
theorem dX12_bound_65 : decode cX12_bound 65 = .ok (.istore 8, 2) := by decide +kernel
theorem dX12_bound_67 : decode cX12_bound 67 = .ok (.iload_n 2, 1) := by decide +kernel
theorem dX12_bound_68 : decode cX12_bound 68 = .ok (.iload 7, 2) := by decide +kernel
theorem dX12_bound_70 : decode cX12_bound 70 = .ok (.iload_n 3, 1) := by decide +kernel
theorem dX12_bound_71 : decode cX12_bound 71 = .ok (.idiv, 1) := by decide +kernel
theorem dX12_bound_72 : decode cX12_bound 72 = .ok (.iadd, 1) := by decide +kernel
theorem dX12_bound_73 : decode cX12_bound 73 = .ok (.istore 9, 2) := by decide +kernel
theorem dX12_bound_75 : decode cX12_bound 75 = .ok (.iload 8, 2) := by decide +kernel
theorem dX12_bound_77 : decode cX12_bound 77 = .ok (.aload_n 0, 1) := by decide +kernel
theorem dX12_bound_78 : decode cX12_bound 78 = .ok (.iload 5, 2) := by decide +kernel
theorem dX12_bound_80 : decode cX12_bound 80 = .ok (.aload_n 0, 1) := by decide +kernel
theorem dX12_bound_81 : decode cX12_bound 81 = .ok (.getfield 19, 3) := by decide +kernel
theorem dX12_bound_84 : decode cX12_bound 84 = .ok (.aload_n 0, 1) := by decide +kernel
theorem dX12_bound_85 : decode cX12_bound 85 = .ok (.getfield 108, 3) := by decide +kernel
theorem dX12_bound_88 : decode cX12_bound 88 = .ok (.aload_n 0, 1) := by decide +kernel
theorem dX12_bound_89 : decode cX12_bound 89 = .ok (.getfield 111, 3) := by decide +kernel
theorem dX12_bound_92 : decode cX12_bound 92 = .ok (.invokevirtual 143, 3) := by decide +kernel
theorem dX12_bound_95 : decode cX12_bound 95 = .ok (.iadd, 1) := by decide +kernel
theorem dX12_bound_96 : decode cX12_bound 96 = .ok (.istore 10, 2) := by decide +kernel
theorem dX12_bound_98 : decode cX12_bound 98 = .ok (.iload 9, 2) := by decide +kernel
theorem dX12_bound_100 : decode cX12_bound 100 = .ok (.aload_n 0, 1) := by decide +kernel
theorem dX12_bound_101 : decode cX12_bound 101 = .ok (.iload 5, 2) := by decide +kernel
theorem dX12_bound_103 : decode cX12_bound 103 = .ok (.aload_n 0, 1) := by decide +kernel
theorem dX12_bound_104 : decode cX12_bound 104 = .ok (.getfield 19, 3) := by decide +kernel
theorem dX12_bound_107 : decode cX12_bound 107 = .ok (.aload_n 0, 1) := by decide +kernel
theorem dX12_bound_108 : decode cX12_bound 108 = .ok (.getfield 108, 3) := by decide +kernel
theorem dX12_bound_111 : decode cX12_bound 111 = .ok (.aload_n 0, 1) := by decide +kernel
theorem dX12_bound_112 : decode cX12_bound 112 = .ok (.getfield 111, 3) := by decide +kernel
theorem dX12_bound_115 : decode cX12_bound 115 = .ok (.invokevirtual 146, 3) := by decide +kernel
theorem dX12_bound_118 : decode cX12_bound 118 = .ok (.iadd, 1) := by decide +kernel
theorem dX12_bound_119 : decode cX12_bound 119 = .ok (.istore 11, 2) := by decide +kernel
theorem dX12_bound_121 : decode cX12_bound 121 = .ok (.aload_n 0, 1) := by decide +kernel
theorem dX12_bound_122 : decode cX12_bound 122 = .ok (.iload 8, 2) := by decide +kernel
theorem dX12_bound_124 : decode cX12_bound 124 = .ok (.iload 9, 2) := by decide +kernel
theorem dX12_bound_126 : decode cX12_bound 126 = .ok (.invokevirtual 120, 3) := by decide +kernel
theorem dX12_bound_129 : decode cX12_bound 129 = .ok (.ifCond .eq 46, 3) := by decide +kernel
theorem dX12_bound_132 : decode cX12_bound 132 = .ok (.aload_n 0, 1) := by decide +kernel
theorem dX12_bound_133 : decode cX12_bound 133 = .ok (.iload 10, 2) := by decide +kernel
theorem dX12_bound_135 : decode cX12_bound 135 = .ok (.iload 11, 2) := by decide +kernel
theorem dX12_bound_137 : decode cX12_bound 137 = .ok (.invokevirtual 120, 3) := by decide +kernel
theorem dX12_bound_140 : decode cX12_bound 140 = .ok (.ifCond .eq 35, 3) := by decide +kernel
theorem dX12_bound_143 : decode cX12_bound 143 = .ok (.aload_n 0, 1) := by decide +kernel
theorem dX12_bound_144 : decode cX12_bound 144 = .ok (.getfield 35, 3) := by decide +kernel
theorem dX12_bound_147 : decode cX12_bound 147 = .ok (.iload 10, 2) := by decide +kernel
theorem dX12_bound_149 : decode cX12_bound 149 = .ok (.iload 11, 2) := by decide +kernel
theorem dX12_bound_151 : decode cX12_bound 151 = .ok (.invokestatic 50, 3) := by decide +kernel
theorem dX12_bound_154 : decode cX12_bound 154 = .ok (.iaload, 1) := by decide +kernel
theorem dX12_bound_155 : decode cX12_bound 155 = .ok (.iload 6, 2) := by decide +kernel
theorem dX12_bound_157 : decode cX12_bound 157 = .ok (.if_icmp .ge 18, 3) := by decide +kernel
theorem dX12_bound_160 : decode cX12_bound 160 = .ok (.aload_n 0, 1) := by decide +kernel
theorem dX12_bound_161 : decode cX12_bound 161 = .ok (.getfield 35, 3) := by decide +kernel
theorem dX12_bound_164 : decode cX12_bound 164 = .ok (.iload 10, 2) := by decide +kernel
theorem dX12_bound_166 : decode cX12_bound 166 = .ok (.iload 11, 2) := by decide +kernel
theorem dX12_bound_168 : decode cX12_bound 168 = .ok (.invokestatic 50, 3) := by decide +kernel
theorem dX12_bound_171 : decode cX12_bound 171 = .ok (.iaload, 1) := by decide +kernel
theorem dX12_bound_172 : decode cX12_bound 172 = .ok (.goto 5, 3) := by decide +kernel
theorem dX12_bound_175 : decode cX12_bound 175 = .ok (.iload 6, 2) := by decide +kernel
theorem dX12_bound_177 : decode cX12_bound 177 = .ok (.istore 6, 2) := by decide +kernel
theorem dX12_bound_179 : decode cX12_bound 179 = .ok (.iinc 7 1, 3) := by decide +kernel
theorem dX12_bound_182 : decode cX12_bound 182 = .ok (.goto (-131), 3) := by decide +kernel
theorem dX12_bound_185 : decode cX12_bound 185 = .ok (.iload 6, 2) := by decide +kernel
theorem dX12_bound_187 : decode cX12_bound 187 = .ok (.ldc 168, 2) := by decide +kernel
theorem dX12_bound_189 : decode cX12_bound 189 = .ok (.if_icmp .ne 6, 3) := by decide +kernel
theorem dX12_bound_192 : decode cX12_bound 192 = .ok (.bipush (-4), 2) := by decide +kernel
theorem dX12_bound_194 : decode cX12_bound 194 = .ok (.ireturn, 1) := by decide +kernel
theorem dX12_bound_195 : decode cX12_bound 195 = .ok (.iload 4, 2) := by decide +kernel
theorem dX12_bound_197 : decode cX12_bound 197 = .ok (.iload 6, 2) := by decide +kernel
theorem dX12_bound_199 : decode cX12_bound 199 = .ok (.iadd, 1) := by decide +kernel
theorem dX12_bound_200 : decode cX12_bound 200 = .ok (.istore 4, 2) := by decide +kernel
theorem dX12_bound_202 : decode cX12_bound 202 = .ok (.iinc 5 1, 3) := by decide +kernel
theorem dX12_bound_205 : decode cX12_bound 205 = .ok (.goto (-174), 3) := by decide +kernel
theorem dX12_bound_208 : decode cX12_bound 208 = .ok (.iload 4, 2) := by decide +kernel
theorem dX12_bound_210 : decode cX12_bound 210 = .ok (.ireturn, 1) := by decide +kernel
theorem dX12_isTold_0 : decode cX12_isTold 0 = .ok (.iconst 0, 1) := by decide +kernel
theorem dX12_isTold_1 : decode cX12_isTold 1 = .ok (.istore 8, 2) := by decide +kernel
theorem dX12_isTold_3 : decode cX12_isTold 3 = .ok (.iconst 0, 1) := by decide +kernel
theorem dX12_isTold_4 : decode cX12_isTold 4 = .ok (.istore 9, 2) := by decide +kernel
theorem dX12_isTold_6 : decode cX12_isTold 6 = .ok (.iload 9, 2) := by decide +kernel
theorem dX12_isTold_8 : decode cX12_isTold 8 = .ok (.aload_n 0, 1) := by decide +kernel
theorem dX12_isTold_9 : decode cX12_isTold 9 = .ok (.getfield 7, 3) := by decide +kernel
theorem dX12_isTold_12 : decode cX12_isTold 12 = .ok (.sipush 141, 3) := by decide +kernel
theorem dX12_isTold_15 : decode cX12_isTold 15 = .ok (.iaload, 1) := by decide +kernel
theorem dX12_isTold_16 : decode cX12_isTold 16 = .ok (.if_icmp .ge 76, 3) := by decide +kernel
theorem dX12_isTold_19 : decode cX12_isTold 19 = .ok (.aload_n 0, 1) := by decide +kernel
theorem dX12_isTold_20 : decode cX12_isTold 20 = .ok (.getfield 7, 3) := by decide +kernel
theorem dX12_isTold_23 : decode cX12_isTold 23 = .ok (.iload_n 1, 1) := by decide +kernel
theorem dX12_isTold_24 : decode cX12_isTold 24 = .ok (.iaload, 1) := by decide +kernel
theorem dX12_isTold_25 : decode cX12_isTold 25 = .ok (.iconst 1, 1) := by decide +kernel
theorem dX12_isTold_26 : decode cX12_isTold 26 = .ok (.if_icmp .ne 66, 3) := by decide +kernel
theorem dX12_isTold_29 : decode cX12_isTold 29 = .ok (.iload 8, 2) := by decide +kernel
theorem dX12_isTold_31 : decode cX12_isTold 31 = .ok (.ifCond .ne 48, 3) := by decide +kernel
theorem dX12_isTold_34 : decode cX12_isTold 34 = .ok (.aload_n 0, 1) := by decide +kernel
theorem dX12_isTold_35 : decode cX12_isTold 35 = .ok (.iload_n 1, 1) := by decide +kernel
theorem dX12_isTold_36 : decode cX12_isTold 36 = .ok (.bipush 11, 2) := by decide +kernel
theorem dX12_isTold_38 : decode cX12_isTold 38 = .ok (.irem, 1) := by decide +kernel
theorem dX12_isTold_39 : decode cX12_isTold 39 = .ok (.iload_n 1, 1) := by decide +kernel
theorem dX12_isTold_40 : decode cX12_isTold 40 = .ok (.bipush 11, 2) := by decide +kernel
theorem dX12_isTold_42 : decode cX12_isTold 42 = .ok (.idiv, 1) := by decide +kernel
theorem dX12_isTold_43 : decode cX12_isTold 43 = .ok (.iload_n 2, 1) := by decide +kernel
theorem dX12_isTold_44 : decode cX12_isTold 44 = .ok (.aload_n 0, 1) := by decide +kernel
theorem dX12_isTold_45 : decode cX12_isTold 45 = .ok (.iload 9, 2) := by decide +kernel
theorem dX12_isTold_47 : decode cX12_isTold 47 = .ok (.iload 4, 2) := by decide +kernel
theorem dX12_isTold_49 : decode cX12_isTold 49 = .ok (.iload 5, 2) := by decide +kernel
theorem dX12_isTold_51 : decode cX12_isTold 51 = .ok (.iload 6, 2) := by decide +kernel
theorem dX12_isTold_53 : decode cX12_isTold 53 = .ok (.invokevirtual 143, 3) := by decide +kernel
theorem dX12_isTold_56 : decode cX12_isTold 56 = .ok (.iadd, 1) := by decide +kernel
theorem dX12_isTold_57 : decode cX12_isTold 57 = .ok (.iload_n 3, 1) := by decide +kernel
theorem dX12_isTold_58 : decode cX12_isTold 58 = .ok (.aload_n 0, 1) := by decide +kernel
theorem dX12_isTold_59 : decode cX12_isTold 59 = .ok (.iload 9, 2) := by decide +kernel
theorem dX12_isTold_61 : decode cX12_isTold 61 = .ok (.iload 4, 2) := by decide +kernel
theorem dX12_isTold_63 : decode cX12_isTold 63 = .ok (.iload 5, 2) := by decide +kernel
theorem dX12_isTold_65 : decode cX12_isTold 65 = .ok (.iload 6, 2) := by decide +kernel
theorem dX12_isTold_67 : decode cX12_isTold 67 = .ok (.invokevirtual 146, 3) := by decide +kernel
theorem dX12_isTold_70 : decode cX12_isTold 70 = .ok (.iadd, 1) := by decide +kernel
theorem dX12_isTold_71 : decode cX12_isTold 71 = .ok (.invokevirtual 130, 3) := by decide +kernel
theorem dX12_isTold_74 : decode cX12_isTold 74 = .ok (.iload 7, 2) := by decide +kernel
theorem dX12_isTold_76 : decode cX12_isTold 76 = .ok (.if_icmp .gt 7, 3) := by decide +kernel
theorem dX12_isTold_79 : decode cX12_isTold 79 = .ok (.iconst 1, 1) := by decide +kernel
theorem dX12_isTold_80 : decode cX12_isTold 80 = .ok (.goto 4, 3) := by decide +kernel
theorem dX12_isTold_83 : decode cX12_isTold 83 = .ok (.iconst 0, 1) := by decide +kernel
theorem dX12_isTold_84 : decode cX12_isTold 84 = .ok (.istore 8, 2) := by decide +kernel
theorem dX12_isTold_86 : decode cX12_isTold 86 = .ok (.iinc 9 1, 3) := by decide +kernel
theorem dX12_isTold_89 : decode cX12_isTold 89 = .ok (.goto (-83), 3) := by decide +kernel
theorem dX12_isTold_92 : decode cX12_isTold 92 = .ok (.iload 8, 2) := by decide +kernel
theorem dX12_isTold_94 : decode cX12_isTold 94 = .ok (.ireturn, 1) := by decide +kernel
theorem dX12_toldMany_0 : decode cX12_toldMany 0 = .ok (.iconst 0, 1) := by decide +kernel
theorem dX12_toldMany_1 : decode cX12_toldMany 1 = .ok (.istore 7, 2) := by decide +kernel
theorem dX12_toldMany_3 : decode cX12_toldMany 3 = .ok (.iconst 0, 1) := by decide +kernel
theorem dX12_toldMany_4 : decode cX12_toldMany 4 = .ok (.istore 8, 2) := by decide +kernel
theorem dX12_toldMany_6 : decode cX12_toldMany 6 = .ok (.iload 8, 2) := by decide +kernel
theorem dX12_toldMany_8 : decode cX12_toldMany 8 = .ok (.bipush 121, 2) := by decide +kernel
theorem dX12_toldMany_10 : decode cX12_toldMany 10 = .ok (.if_icmp .ge 37, 3) := by decide +kernel
theorem dX12_toldMany_13 : decode cX12_toldMany 13 = .ok (.iload 7, 2) := by decide +kernel
theorem dX12_toldMany_15 : decode cX12_toldMany 15 = .ok (.aload_n 0, 1) := by decide +kernel
theorem dX12_toldMany_16 : decode cX12_toldMany 16 = .ok (.iload 8, 2) := by decide +kernel
theorem dX12_toldMany_18 : decode cX12_toldMany 18 = .ok (.iload_n 1, 1) := by decide +kernel
theorem dX12_toldMany_19 : decode cX12_toldMany 19 = .ok (.iload_n 2, 1) := by decide +kernel
theorem dX12_toldMany_20 : decode cX12_toldMany 20 = .ok (.iload_n 3, 1) := by decide +kernel
theorem dX12_toldMany_21 : decode cX12_toldMany 21 = .ok (.iload 4, 2) := by decide +kernel
theorem dX12_toldMany_23 : decode cX12_toldMany 23 = .ok (.iload 5, 2) := by decide +kernel
theorem dX12_toldMany_25 : decode cX12_toldMany 25 = .ok (.iload 6, 2) := by decide +kernel
theorem dX12_toldMany_27 : decode cX12_toldMany 27 = .ok (.invokevirtual 169, 3) := by decide +kernel
theorem dX12_toldMany_30 : decode cX12_toldMany 30 = .ok (.ifCond .eq 7, 3) := by decide +kernel
theorem dX12_toldMany_33 : decode cX12_toldMany 33 = .ok (.iconst 1, 1) := by decide +kernel
theorem dX12_toldMany_34 : decode cX12_toldMany 34 = .ok (.goto 4, 3) := by decide +kernel
theorem dX12_toldMany_37 : decode cX12_toldMany 37 = .ok (.iconst 0, 1) := by decide +kernel
theorem dX12_toldMany_38 : decode cX12_toldMany 38 = .ok (.iadd, 1) := by decide +kernel
theorem dX12_toldMany_39 : decode cX12_toldMany 39 = .ok (.istore 7, 2) := by decide +kernel
theorem dX12_toldMany_41 : decode cX12_toldMany 41 = .ok (.iinc 8 1, 3) := by decide +kernel
theorem dX12_toldMany_44 : decode cX12_toldMany 44 = .ok (.goto (-38), 3) := by decide +kernel
theorem dX12_toldMany_47 : decode cX12_toldMany 47 = .ok (.iload 7, 2) := by decide +kernel
theorem dX12_toldMany_49 : decode cX12_toldMany 49 = .ok (.ireturn, 1) := by decide +kernel
theorem dX12_tells_0 : decode cX12_tells 0 = .ok (.aload_n 0, 1) := by decide +kernel
theorem dX12_tells_1 : decode cX12_tells 1 = .ok (.iload_n 1, 1) := by decide +kernel
theorem dX12_tells_2 : decode cX12_tells 2 = .ok (.iload_n 2, 1) := by decide +kernel
theorem dX12_tells_3 : decode cX12_tells 3 = .ok (.invokevirtual 120, 3) := by decide +kernel
theorem dX12_tells_6 : decode cX12_tells 6 = .ok (.ifCond .eq 12, 3) := by decide +kernel
theorem dX12_tells_9 : decode cX12_tells 9 = .ok (.iload_n 3, 1) := by decide +kernel
theorem dX12_tells_10 : decode cX12_tells 10 = .ok (.iconst 0, 1) := by decide +kernel
theorem dX12_tells_11 : decode cX12_tells 11 = .ok (.iconst 3, 1) := by decide +kernel
theorem dX12_tells_12 : decode cX12_tells 12 = .ok (.invokestatic 58, 3) := by decide +kernel
theorem dX12_tells_15 : decode cX12_tells 15 = .ok (.ifCond .ne 5, 3) := by decide +kernel
theorem dX12_tells_18 : decode cX12_tells 18 = .ok (.iconst (-1), 1) := by decide +kernel
theorem dX12_tells_19 : decode cX12_tells 19 = .ok (.ireturn, 1) := by decide +kernel
theorem dX12_tells_20 : decode cX12_tells 20 = .ok (.aload_n 0, 1) := by decide +kernel
theorem dX12_tells_21 : decode cX12_tells 21 = .ok (.invokevirtual 161, 3) := by decide +kernel
theorem dX12_tells_24 : decode cX12_tells 24 = .ok (.aload_n 0, 1) := by decide +kernel
theorem dX12_tells_25 : decode cX12_tells 25 = .ok (.iload_n 1, 1) := by decide +kernel
theorem dX12_tells_26 : decode cX12_tells 26 = .ok (.iload_n 2, 1) := by decide +kernel
theorem dX12_tells_27 : decode cX12_tells 27 = .ok (.aload_n 0, 1) := by decide +kernel
theorem dX12_tells_28 : decode cX12_tells 28 = .ok (.getfield 19, 3) := by decide +kernel
theorem dX12_tells_31 : decode cX12_tells 31 = .ok (.aload_n 0, 1) := by decide +kernel
theorem dX12_tells_32 : decode cX12_tells 32 = .ok (.getfield 108, 3) := by decide +kernel
theorem dX12_tells_35 : decode cX12_tells 35 = .ok (.aload_n 0, 1) := by decide +kernel
theorem dX12_tells_36 : decode cX12_tells 36 = .ok (.getfield 111, 3) := by decide +kernel
theorem dX12_tells_39 : decode cX12_tells 39 = .ok (.invokevirtual 164, 3) := by decide +kernel
theorem dX12_tells_42 : decode cX12_tells 42 = .ok (.ifCond .eq 25, 3) := by decide +kernel
theorem dX12_tells_45 : decode cX12_tells 45 = .ok (.aload_n 0, 1) := by decide +kernel
theorem dX12_tells_46 : decode cX12_tells 46 = .ok (.iload_n 1, 1) := by decide +kernel
theorem dX12_tells_47 : decode cX12_tells 47 = .ok (.iload_n 2, 1) := by decide +kernel
theorem dX12_tells_48 : decode cX12_tells 48 = .ok (.aload_n 0, 1) := by decide +kernel
theorem dX12_tells_49 : decode cX12_tells 49 = .ok (.getfield 19, 3) := by decide +kernel
theorem dX12_tells_52 : decode cX12_tells 52 = .ok (.aload_n 0, 1) := by decide +kernel
theorem dX12_tells_53 : decode cX12_tells 53 = .ok (.getfield 108, 3) := by decide +kernel
theorem dX12_tells_56 : decode cX12_tells 56 = .ok (.aload_n 0, 1) := by decide +kernel
theorem dX12_tells_57 : decode cX12_tells 57 = .ok (.getfield 111, 3) := by decide +kernel
theorem dX12_tells_60 : decode cX12_tells 60 = .ok (.iload_n 3, 1) := by decide +kernel
theorem dX12_tells_61 : decode cX12_tells 61 = .ok (.invokevirtual 173, 3) := by decide +kernel
theorem dX12_tells_64 : decode cX12_tells 64 = .ok (.goto 5, 3) := by decide +kernel
theorem dX12_tells_67 : decode cX12_tells 67 = .ok (.bipush (-4), 2) := by decide +kernel
theorem dX12_tells_69 : decode cX12_tells 69 = .ok (.ireturn, 1) := by decide +kernel
theorem dX12_laysRanks_0 : decode cX12_laysRanks 0 = .ok (.aload_n 0, 1) := by decide +kernel
theorem dX12_laysRanks_1 : decode cX12_laysRanks 1 = .ok (.invokevirtual 161, 3) := by decide +kernel
theorem dX12_laysRanks_4 : decode cX12_laysRanks 4 = .ok (.aload_n 0, 1) := by decide +kernel
theorem dX12_laysRanks_5 : decode cX12_laysRanks 5 = .ok (.iconst 0, 1) := by decide +kernel
theorem dX12_laysRanks_6 : decode cX12_laysRanks 6 = .ok (.putfield 177, 3) := by decide +kernel
theorem dX12_laysRanks_9 : decode cX12_laysRanks 9 = .ok (.iconst 0, 1) := by decide +kernel
theorem dX12_laysRanks_10 : decode cX12_laysRanks 10 = .ok (.istore_n 1, 1) := by decide +kernel
theorem dX12_laysRanks_11 : decode cX12_laysRanks 11 = .ok (.iload_n 1, 1) := by decide +kernel
theorem dX12_laysRanks_12 : decode cX12_laysRanks 12 = .ok (.bipush 24, 2) := by decide +kernel
theorem dX12_laysRanks_14 : decode cX12_laysRanks 14 = .ok (.if_icmp .ge 123, 3) := by decide +kernel
theorem dX12_laysRanks_17 : decode cX12_laysRanks 17 = .ok (.iconst 2, 1) := by decide +kernel
theorem dX12_laysRanks_18 : decode cX12_laysRanks 18 = .ok (.iload_n 1, 1) := by decide +kernel
theorem dX12_laysRanks_19 : decode cX12_laysRanks 19 = .ok (.bipush 8, 2) := by decide +kernel
theorem dX12_laysRanks_21 : decode cX12_laysRanks 21 = .ok (.idiv, 1) := by decide +kernel
theorem dX12_laysRanks_22 : decode cX12_laysRanks 22 = .ok (.iadd, 1) := by decide +kernel
theorem dX12_laysRanks_23 : decode cX12_laysRanks 23 = .ok (.istore_n 2, 1) := by decide +kernel
theorem dX12_laysRanks_24 : decode cX12_laysRanks 24 = .ok (.iload_n 1, 1) := by decide +kernel
theorem dX12_laysRanks_25 : decode cX12_laysRanks 25 = .ok (.iconst 2, 1) := by decide +kernel
theorem dX12_laysRanks_26 : decode cX12_laysRanks 26 = .ok (.idiv, 1) := by decide +kernel
theorem dX12_laysRanks_27 : decode cX12_laysRanks 27 = .ok (.iconst 4, 1) := by decide +kernel
theorem dX12_laysRanks_28 : decode cX12_laysRanks 28 = .ok (.irem, 1) := by decide +kernel
theorem dX12_laysRanks_29 : decode cX12_laysRanks 29 = .ok (.istore_n 3, 1) := by decide +kernel
theorem dX12_laysRanks_30 : decode cX12_laysRanks 30 = .ok (.iload_n 1, 1) := by decide +kernel
theorem dX12_laysRanks_31 : decode cX12_laysRanks 31 = .ok (.iconst 2, 1) := by decide +kernel
theorem dX12_laysRanks_32 : decode cX12_laysRanks 32 = .ok (.irem, 1) := by decide +kernel
theorem dX12_laysRanks_33 : decode cX12_laysRanks 33 = .ok (.istore 4, 2) := by decide +kernel
theorem dX12_laysRanks_35 : decode cX12_laysRanks 35 = .ok (.iconst 0, 1) := by decide +kernel
theorem dX12_laysRanks_36 : decode cX12_laysRanks 36 = .ok (.istore 5, 2) := by decide +kernel
theorem dX12_laysRanks_38 : decode cX12_laysRanks 38 = .ok (.iload 5, 2) := by decide +kernel
theorem dX12_laysRanks_40 : decode cX12_laysRanks 40 = .ok (.bipush 121, 2) := by decide +kernel
theorem dX12_laysRanks_42 : decode cX12_laysRanks 42 = .ok (.if_icmp .ge 89, 3) := by decide +kernel
theorem dX12_laysRanks_45 : decode cX12_laysRanks 45 = .ok (.aload_n 0, 1) := by decide +kernel
theorem dX12_laysRanks_46 : decode cX12_laysRanks 46 = .ok (.iload 5, 2) := by decide +kernel
theorem dX12_laysRanks_48 : decode cX12_laysRanks 48 = .ok (.bipush 11, 2) := by decide +kernel
theorem dX12_laysRanks_50 : decode cX12_laysRanks 50 = .ok (.irem, 1) := by decide +kernel
theorem dX12_laysRanks_51 : decode cX12_laysRanks 51 = .ok (.iload 5, 2) := by decide +kernel
theorem dX12_laysRanks_53 : decode cX12_laysRanks 53 = .ok (.bipush 11, 2) := by decide +kernel
theorem dX12_laysRanks_55 : decode cX12_laysRanks 55 = .ok (.idiv, 1) := by decide +kernel
theorem dX12_laysRanks_56 : decode cX12_laysRanks 56 = .ok (.invokevirtual 120, 3) := by decide +kernel
theorem dX12_laysRanks_59 : decode cX12_laysRanks 59 = .ok (.ifCond .eq 66, 3) := by decide +kernel
theorem dX12_laysRanks_62 : decode cX12_laysRanks 62 = .ok (.aload_n 0, 1) := by decide +kernel
theorem dX12_laysRanks_63 : decode cX12_laysRanks 63 = .ok (.iload 5, 2) := by decide +kernel
theorem dX12_laysRanks_65 : decode cX12_laysRanks 65 = .ok (.bipush 11, 2) := by decide +kernel
theorem dX12_laysRanks_67 : decode cX12_laysRanks 67 = .ok (.irem, 1) := by decide +kernel
theorem dX12_laysRanks_68 : decode cX12_laysRanks 68 = .ok (.iload 5, 2) := by decide +kernel
theorem dX12_laysRanks_70 : decode cX12_laysRanks 70 = .ok (.bipush 11, 2) := by decide +kernel
theorem dX12_laysRanks_72 : decode cX12_laysRanks 72 = .ok (.idiv, 1) := by decide +kernel
theorem dX12_laysRanks_73 : decode cX12_laysRanks 73 = .ok (.iload_n 2, 1) := by decide +kernel
theorem dX12_laysRanks_74 : decode cX12_laysRanks 74 = .ok (.iload_n 3, 1) := by decide +kernel
theorem dX12_laysRanks_75 : decode cX12_laysRanks 75 = .ok (.iload 4, 2) := by decide +kernel
theorem dX12_laysRanks_77 : decode cX12_laysRanks 77 = .ok (.invokevirtual 164, 3) := by decide +kernel
theorem dX12_laysRanks_80 : decode cX12_laysRanks 80 = .ok (.ifCond .eq 45, 3) := by decide +kernel
theorem dX12_laysRanks_83 : decode cX12_laysRanks 83 = .ok (.aload_n 0, 1) := by decide +kernel
theorem dX12_laysRanks_84 : decode cX12_laysRanks 84 = .ok (.getfield 38, 3) := by decide +kernel
theorem dX12_laysRanks_87 : decode cX12_laysRanks 87 = .ok (.aload_n 0, 1) := by decide +kernel
theorem dX12_laysRanks_88 : decode cX12_laysRanks 88 = .ok (.getfield 177, 3) := by decide +kernel
theorem dX12_laysRanks_91 : decode cX12_laysRanks 91 = .ok (.aload_n 0, 1) := by decide +kernel
theorem dX12_laysRanks_92 : decode cX12_laysRanks 92 = .ok (.getfield 149, 3) := by decide +kernel
theorem dX12_laysRanks_95 : decode cX12_laysRanks 95 = .ok (.bipush 100, 2) := by decide +kernel
theorem dX12_laysRanks_97 : decode cX12_laysRanks 97 = .ok (.imul, 1) := by decide +kernel
theorem dX12_laysRanks_98 : decode cX12_laysRanks 98 = .ok (.aload_n 0, 1) := by decide +kernel
theorem dX12_laysRanks_99 : decode cX12_laysRanks 99 = .ok (.getfield 152, 3) := by decide +kernel
theorem dX12_laysRanks_102 : decode cX12_laysRanks 102 = .ok (.iadd, 1) := by decide +kernel
theorem dX12_laysRanks_103 : decode cX12_laysRanks 103 = .ok (.bipush 24, 2) := by decide +kernel
theorem dX12_laysRanks_105 : decode cX12_laysRanks 105 = .ok (.imul, 1) := by decide +kernel
theorem dX12_laysRanks_106 : decode cX12_laysRanks 106 = .ok (.iload_n 1, 1) := by decide +kernel
theorem dX12_laysRanks_107 : decode cX12_laysRanks 107 = .ok (.iadd, 1) := by decide +kernel
theorem dX12_laysRanks_108 : decode cX12_laysRanks 108 = .ok (.bipush 121, 2) := by decide +kernel
theorem dX12_laysRanks_110 : decode cX12_laysRanks 110 = .ok (.imul, 1) := by decide +kernel
theorem dX12_laysRanks_111 : decode cX12_laysRanks 111 = .ok (.iload 5, 2) := by decide +kernel
theorem dX12_laysRanks_113 : decode cX12_laysRanks 113 = .ok (.iadd, 1) := by decide +kernel
theorem dX12_laysRanks_114 : decode cX12_laysRanks 114 = .ok (.iastore, 1) := by decide +kernel
theorem dX12_laysRanks_115 : decode cX12_laysRanks 115 = .ok (.aload_n 0, 1) := by decide +kernel
theorem dX12_laysRanks_116 : decode cX12_laysRanks 116 = .ok (.dup, 1) := by decide +kernel
theorem dX12_laysRanks_117 : decode cX12_laysRanks 117 = .ok (.getfield 177, 3) := by decide +kernel
theorem dX12_laysRanks_120 : decode cX12_laysRanks 120 = .ok (.iconst 1, 1) := by decide +kernel
theorem dX12_laysRanks_121 : decode cX12_laysRanks 121 = .ok (.iadd, 1) := by decide +kernel
theorem dX12_laysRanks_122 : decode cX12_laysRanks 122 = .ok (.putfield 177, 3) := by decide +kernel
theorem dX12_laysRanks_125 : decode cX12_laysRanks 125 = .ok (.iinc 5 1, 3) := by decide +kernel
theorem dX12_laysRanks_128 : decode cX12_laysRanks 128 = .ok (.goto (-90), 3) := by decide +kernel
theorem dX12_laysRanks_131 : decode cX12_laysRanks 131 = .ok (.iinc 1 1, 3) := by decide +kernel
theorem dX12_laysRanks_134 : decode cX12_laysRanks 134 = .ok (.goto (-123), 3) := by decide +kernel
theorem dX12_laysRanks_137 : decode cX12_laysRanks 137 = .ok (.return_, 1) := by decide +kernel
theorem dX12_placeOf_0 : decode cX12_placeOf 0 = .ok (.iload_n 0, 1) := by decide +kernel
theorem dX12_placeOf_1 : decode cX12_placeOf 1 = .ok (.bipush 121, 2) := by decide +kernel
theorem dX12_placeOf_3 : decode cX12_placeOf 3 = .ok (.irem, 1) := by decide +kernel
theorem dX12_placeOf_4 : decode cX12_placeOf 4 = .ok (.ireturn, 1) := by decide +kernel
theorem dX12_isApart_0 : decode cX12_isApart 0 = .ok (.iconst 1, 1) := by decide +kernel
theorem dX12_isApart_1 : decode cX12_isApart 1 = .ok (.istore_n 3, 1) := by decide +kernel
theorem dX12_isApart_2 : decode cX12_isApart 2 = .ok (.iconst 0, 1) := by decide +kernel
theorem dX12_isApart_3 : decode cX12_isApart 3 = .ok (.istore 4, 2) := by decide +kernel
theorem dX12_isApart_5 : decode cX12_isApart 5 = .ok (.iload 4, 2) := by decide +kernel
theorem dX12_isApart_7 : decode cX12_isApart 7 = .ok (.aload_n 0, 1) := by decide +kernel
theorem dX12_isApart_8 : decode cX12_isApart 8 = .ok (.getfield 180, 3) := by decide +kernel
theorem dX12_isApart_11 : decode cX12_isApart 11 = .ok (.if_icmp .ge 96, 3) := by decide +kernel
theorem dX12_isApart_14 : decode cX12_isApart 14 = .ok (.iload_n 1, 1) := by decide +kernel
theorem dX12_isApart_15 : decode cX12_isApart 15 = .ok (.invokestatic 183, 3) := by decide +kernel
theorem dX12_isApart_18 : decode cX12_isApart 18 = .ok (.bipush 11, 2) := by decide +kernel
theorem dX12_isApart_20 : decode cX12_isApart 20 = .ok (.irem, 1) := by decide +kernel
theorem dX12_isApart_21 : decode cX12_isApart 21 = .ok (.aload_n 0, 1) := by decide +kernel
theorem dX12_isApart_22 : decode cX12_isApart 22 = .ok (.getfield 41, 3) := by decide +kernel
theorem dX12_isApart_25 : decode cX12_isApart 25 = .ok (.iload 4, 2) := by decide +kernel
theorem dX12_isApart_27 : decode cX12_isApart 27 = .ok (.iaload, 1) := by decide +kernel
theorem dX12_isApart_28 : decode cX12_isApart 28 = .ok (.invokestatic 183, 3) := by decide +kernel
theorem dX12_isApart_31 : decode cX12_isApart 31 = .ok (.bipush 11, 2) := by decide +kernel
theorem dX12_isApart_33 : decode cX12_isApart 33 = .ok (.irem, 1) := by decide +kernel
theorem dX12_isApart_34 : decode cX12_isApart 34 = .ok (.isub, 1) := by decide +kernel
theorem dX12_isApart_35 : decode cX12_isApart 35 = .ok (.istore 5, 2) := by decide +kernel
theorem dX12_isApart_37 : decode cX12_isApart 37 = .ok (.iload_n 1, 1) := by decide +kernel
theorem dX12_isApart_38 : decode cX12_isApart 38 = .ok (.invokestatic 183, 3) := by decide +kernel
theorem dX12_isApart_41 : decode cX12_isApart 41 = .ok (.bipush 11, 2) := by decide +kernel
theorem dX12_isApart_43 : decode cX12_isApart 43 = .ok (.idiv, 1) := by decide +kernel
theorem dX12_isApart_44 : decode cX12_isApart 44 = .ok (.aload_n 0, 1) := by decide +kernel
theorem dX12_isApart_45 : decode cX12_isApart 45 = .ok (.getfield 41, 3) := by decide +kernel
theorem dX12_isApart_48 : decode cX12_isApart 48 = .ok (.iload 4, 2) := by decide +kernel
theorem dX12_isApart_50 : decode cX12_isApart 50 = .ok (.iaload, 1) := by decide +kernel
theorem dX12_isApart_51 : decode cX12_isApart 51 = .ok (.invokestatic 183, 3) := by decide +kernel
theorem dX12_isApart_54 : decode cX12_isApart 54 = .ok (.bipush 11, 2) := by decide +kernel
theorem dX12_isApart_56 : decode cX12_isApart 56 = .ok (.idiv, 1) := by decide +kernel
theorem dX12_isApart_57 : decode cX12_isApart 57 = .ok (.isub, 1) := by decide +kernel
theorem dX12_isApart_58 : decode cX12_isApart 58 = .ok (.istore 6, 2) := by decide +kernel
theorem dX12_isApart_60 : decode cX12_isApart 60 = .ok (.iload_n 3, 1) := by decide +kernel
theorem dX12_isApart_61 : decode cX12_isApart 61 = .ok (.ifCond .eq 38, 3) := by decide +kernel
theorem dX12_isApart_64 : decode cX12_isApart 64 = .ok (.iload 5, 2) := by decide +kernel
theorem dX12_isApart_66 : decode cX12_isApart 66 = .ok (.ifCond .ge 9, 3) := by decide +kernel
theorem dX12_isApart_69 : decode cX12_isApart 69 = .ok (.iload 5, 2) := by decide +kernel
theorem dX12_isApart_71 : decode cX12_isApart 71 = .ok (.ineg, 1) := by decide +kernel
theorem dX12_isApart_72 : decode cX12_isApart 72 = .ok (.goto 5, 3) := by decide +kernel
theorem dX12_isApart_75 : decode cX12_isApart 75 = .ok (.iload 5, 2) := by decide +kernel
theorem dX12_isApart_77 : decode cX12_isApart 77 = .ok (.iload 6, 2) := by decide +kernel
theorem dX12_isApart_79 : decode cX12_isApart 79 = .ok (.ifCond .ge 9, 3) := by decide +kernel
theorem dX12_isApart_82 : decode cX12_isApart 82 = .ok (.iload 6, 2) := by decide +kernel
theorem dX12_isApart_84 : decode cX12_isApart 84 = .ok (.ineg, 1) := by decide +kernel
theorem dX12_isApart_85 : decode cX12_isApart 85 = .ok (.goto 5, 3) := by decide +kernel
theorem dX12_isApart_88 : decode cX12_isApart 88 = .ok (.iload 6, 2) := by decide +kernel
theorem dX12_isApart_90 : decode cX12_isApart 90 = .ok (.iadd, 1) := by decide +kernel
theorem dX12_isApart_91 : decode cX12_isApart 91 = .ok (.iload_n 2, 1) := by decide +kernel
theorem dX12_isApart_92 : decode cX12_isApart 92 = .ok (.if_icmp .lt 7, 3) := by decide +kernel
theorem dX12_isApart_95 : decode cX12_isApart 95 = .ok (.iconst 1, 1) := by decide +kernel
theorem dX12_isApart_96 : decode cX12_isApart 96 = .ok (.goto 4, 3) := by decide +kernel
theorem dX12_isApart_99 : decode cX12_isApart 99 = .ok (.iconst 0, 1) := by decide +kernel
theorem dX12_isApart_100 : decode cX12_isApart 100 = .ok (.istore_n 3, 1) := by decide +kernel
theorem dX12_isApart_101 : decode cX12_isApart 101 = .ok (.iinc 4 1, 3) := by decide +kernel
theorem dX12_isApart_104 : decode cX12_isApart 104 = .ok (.goto (-99), 3) := by decide +kernel
theorem dX12_isApart_107 : decode cX12_isApart 107 = .ok (.iload_n 3, 1) := by decide +kernel
theorem dX12_isApart_108 : decode cX12_isApart 108 = .ok (.ireturn, 1) := by decide +kernel
theorem dX12_chooses_0 : decode cX12_chooses 0 = .ok (.aload_n 0, 1) := by decide +kernel
theorem dX12_chooses_1 : decode cX12_chooses 1 = .ok (.invokevirtual 186, 3) := by decide +kernel
theorem dX12_chooses_4 : decode cX12_chooses 4 = .ok (.aload_n 0, 1) := by decide +kernel
theorem dX12_chooses_5 : decode cX12_chooses 5 = .ok (.iconst 0, 1) := by decide +kernel
theorem dX12_chooses_6 : decode cX12_chooses 6 = .ok (.putfield 180, 3) := by decide +kernel
theorem dX12_chooses_9 : decode cX12_chooses 9 = .ok (.iconst (-1), 1) := by decide +kernel
theorem dX12_chooses_10 : decode cX12_chooses 10 = .ok (.istore_n 2, 1) := by decide +kernel
theorem dX12_chooses_11 : decode cX12_chooses 11 = .ok (.aload_n 0, 1) := by decide +kernel
theorem dX12_chooses_12 : decode cX12_chooses 12 = .ok (.getfield 180, 3) := by decide +kernel
theorem dX12_chooses_15 : decode cX12_chooses 15 = .ok (.bipush 10, 2) := by decide +kernel
theorem dX12_chooses_17 : decode cX12_chooses 17 = .ok (.if_icmp .ge 105, 3) := by decide +kernel
theorem dX12_chooses_20 : decode cX12_chooses 20 = .ok (.ldc 168, 2) := by decide +kernel
theorem dX12_chooses_22 : decode cX12_chooses 22 = .ok (.istore_n 3, 1) := by decide +kernel
theorem dX12_chooses_23 : decode cX12_chooses 23 = .ok (.iconst 0, 1) := by decide +kernel
theorem dX12_chooses_24 : decode cX12_chooses 24 = .ok (.istore 4, 2) := by decide +kernel
theorem dX12_chooses_26 : decode cX12_chooses 26 = .ok (.iload 4, 2) := by decide +kernel
theorem dX12_chooses_28 : decode cX12_chooses 28 = .ok (.aload_n 0, 1) := by decide +kernel
theorem dX12_chooses_29 : decode cX12_chooses 29 = .ok (.getfield 177, 3) := by decide +kernel
theorem dX12_chooses_32 : decode cX12_chooses 32 = .ok (.if_icmp .ge 58, 3) := by decide +kernel
theorem dX12_chooses_35 : decode cX12_chooses 35 = .ok (.aload_n 0, 1) := by decide +kernel
theorem dX12_chooses_36 : decode cX12_chooses 36 = .ok (.getfield 38, 3) := by decide +kernel
theorem dX12_chooses_39 : decode cX12_chooses 39 = .ok (.iload 4, 2) := by decide +kernel
theorem dX12_chooses_41 : decode cX12_chooses 41 = .ok (.iaload, 1) := by decide +kernel
theorem dX12_chooses_42 : decode cX12_chooses 42 = .ok (.iload_n 2, 1) := by decide +kernel
theorem dX12_chooses_43 : decode cX12_chooses 43 = .ok (.if_icmp .le 39, 3) := by decide +kernel
theorem dX12_chooses_46 : decode cX12_chooses 46 = .ok (.aload_n 0, 1) := by decide +kernel
theorem dX12_chooses_47 : decode cX12_chooses 47 = .ok (.getfield 38, 3) := by decide +kernel
theorem dX12_chooses_50 : decode cX12_chooses 50 = .ok (.iload 4, 2) := by decide +kernel
theorem dX12_chooses_52 : decode cX12_chooses 52 = .ok (.iaload, 1) := by decide +kernel
theorem dX12_chooses_53 : decode cX12_chooses 53 = .ok (.iload_n 3, 1) := by decide +kernel
theorem dX12_chooses_54 : decode cX12_chooses 54 = .ok (.if_icmp .ge 28, 3) := by decide +kernel
theorem dX12_chooses_57 : decode cX12_chooses 57 = .ok (.aload_n 0, 1) := by decide +kernel
theorem dX12_chooses_58 : decode cX12_chooses 58 = .ok (.aload_n 0, 1) := by decide +kernel
theorem dX12_chooses_59 : decode cX12_chooses 59 = .ok (.getfield 38, 3) := by decide +kernel
theorem dX12_chooses_62 : decode cX12_chooses 62 = .ok (.iload 4, 2) := by decide +kernel
theorem dX12_chooses_64 : decode cX12_chooses 64 = .ok (.iaload, 1) := by decide +kernel
theorem dX12_chooses_65 : decode cX12_chooses 65 = .ok (.iload_n 1, 1) := by decide +kernel
theorem dX12_chooses_66 : decode cX12_chooses 66 = .ok (.invokevirtual 189, 3) := by decide +kernel
theorem dX12_chooses_69 : decode cX12_chooses 69 = .ok (.ifCond .eq 13, 3) := by decide +kernel
theorem dX12_chooses_72 : decode cX12_chooses 72 = .ok (.aload_n 0, 1) := by decide +kernel
theorem dX12_chooses_73 : decode cX12_chooses 73 = .ok (.getfield 38, 3) := by decide +kernel
theorem dX12_chooses_76 : decode cX12_chooses 76 = .ok (.iload 4, 2) := by decide +kernel
theorem dX12_chooses_78 : decode cX12_chooses 78 = .ok (.iaload, 1) := by decide +kernel
theorem dX12_chooses_79 : decode cX12_chooses 79 = .ok (.goto 4, 3) := by decide +kernel
theorem dX12_chooses_82 : decode cX12_chooses 82 = .ok (.iload_n 3, 1) := by decide +kernel
theorem dX12_chooses_83 : decode cX12_chooses 83 = .ok (.istore_n 3, 1) := by decide +kernel
theorem dX12_chooses_84 : decode cX12_chooses 84 = .ok (.iinc 4 1, 3) := by decide +kernel
theorem dX12_chooses_87 : decode cX12_chooses 87 = .ok (.goto (-61), 3) := by decide +kernel
theorem dX12_chooses_90 : decode cX12_chooses 90 = .ok (.iload_n 3, 1) := by decide +kernel
theorem dX12_chooses_91 : decode cX12_chooses 91 = .ok (.ldc 168, 2) := by decide +kernel
theorem dX12_chooses_93 : decode cX12_chooses 93 = .ok (.if_icmp .ne 4, 3) := by decide +kernel
theorem dX12_chooses_96 : decode cX12_chooses 96 = .ok (.return_, 1) := by decide +kernel
theorem dX12_chooses_97 : decode cX12_chooses 97 = .ok (.aload_n 0, 1) := by decide +kernel
theorem dX12_chooses_98 : decode cX12_chooses 98 = .ok (.getfield 41, 3) := by decide +kernel
theorem dX12_chooses_101 : decode cX12_chooses 101 = .ok (.aload_n 0, 1) := by decide +kernel
theorem dX12_chooses_102 : decode cX12_chooses 102 = .ok (.getfield 180, 3) := by decide +kernel
theorem dX12_chooses_105 : decode cX12_chooses 105 = .ok (.iload_n 3, 1) := by decide +kernel
theorem dX12_chooses_106 : decode cX12_chooses 106 = .ok (.iastore, 1) := by decide +kernel
theorem dX12_chooses_107 : decode cX12_chooses 107 = .ok (.aload_n 0, 1) := by decide +kernel
theorem dX12_chooses_108 : decode cX12_chooses 108 = .ok (.dup, 1) := by decide +kernel
theorem dX12_chooses_109 : decode cX12_chooses 109 = .ok (.getfield 180, 3) := by decide +kernel
theorem dX12_chooses_112 : decode cX12_chooses 112 = .ok (.iconst 1, 1) := by decide +kernel
theorem dX12_chooses_113 : decode cX12_chooses 113 = .ok (.iadd, 1) := by decide +kernel
theorem dX12_chooses_114 : decode cX12_chooses 114 = .ok (.putfield 180, 3) := by decide +kernel
theorem dX12_chooses_117 : decode cX12_chooses 117 = .ok (.iload_n 3, 1) := by decide +kernel
theorem dX12_chooses_118 : decode cX12_chooses 118 = .ok (.istore_n 2, 1) := by decide +kernel
theorem dX12_chooses_119 : decode cX12_chooses 119 = .ok (.goto (-108), 3) := by decide +kernel
theorem dX12_chooses_122 : decode cX12_chooses 122 = .ok (.return_, 1) := by decide +kernel
theorem dX12_partOf_0 : decode cX12_partOf 0 = .ok (.iload_n 0, 1) := by decide +kernel
theorem dX12_partOf_1 : decode cX12_partOf 1 = .ok (.bipush 121, 2) := by decide +kernel
theorem dX12_partOf_3 : decode cX12_partOf 3 = .ok (.idiv, 1) := by decide +kernel
theorem dX12_partOf_4 : decode cX12_partOf 4 = .ok (.bipush 24, 2) := by decide +kernel
theorem dX12_partOf_6 : decode cX12_partOf 6 = .ok (.irem, 1) := by decide +kernel
theorem dX12_partOf_7 : decode cX12_partOf 7 = .ok (.istore_n 2, 1) := by decide +kernel
theorem dX12_partOf_8 : decode cX12_partOf 8 = .ok (.iload_n 0, 1) := by decide +kernel
theorem dX12_partOf_9 : decode cX12_partOf 9 = .ok (.bipush 121, 2) := by decide +kernel
theorem dX12_partOf_11 : decode cX12_partOf 11 = .ok (.idiv, 1) := by decide +kernel
theorem dX12_partOf_12 : decode cX12_partOf 12 = .ok (.bipush 24, 2) := by decide +kernel
theorem dX12_partOf_14 : decode cX12_partOf 14 = .ok (.idiv, 1) := by decide +kernel
theorem dX12_partOf_15 : decode cX12_partOf 15 = .ok (.istore_n 3, 1) := by decide +kernel
theorem dX12_partOf_16 : decode cX12_partOf 16 = .ok (.iload_n 1, 1) := by decide +kernel
theorem dX12_partOf_17 : decode cX12_partOf 17 = .ok (.tableswitch 77 0 5 #[39, 47, 55, 62, 68, 72], 39) := by decide +kernel
theorem dX12_partOf_56 : decode cX12_partOf 56 = .ok (.iload_n 0, 1) := by decide +kernel
theorem dX12_partOf_57 : decode cX12_partOf 57 = .ok (.invokestatic 183, 3) := by decide +kernel
theorem dX12_partOf_60 : decode cX12_partOf 60 = .ok (.bipush 11, 2) := by decide +kernel
theorem dX12_partOf_62 : decode cX12_partOf 62 = .ok (.irem, 1) := by decide +kernel
theorem dX12_partOf_63 : decode cX12_partOf 63 = .ok (.ireturn, 1) := by decide +kernel
theorem dX12_partOf_64 : decode cX12_partOf 64 = .ok (.iload_n 0, 1) := by decide +kernel
theorem dX12_partOf_65 : decode cX12_partOf 65 = .ok (.invokestatic 183, 3) := by decide +kernel
theorem dX12_partOf_68 : decode cX12_partOf 68 = .ok (.bipush 11, 2) := by decide +kernel
theorem dX12_partOf_70 : decode cX12_partOf 70 = .ok (.idiv, 1) := by decide +kernel
theorem dX12_partOf_71 : decode cX12_partOf 71 = .ok (.ireturn, 1) := by decide +kernel
theorem dX12_partOf_72 : decode cX12_partOf 72 = .ok (.iconst 2, 1) := by decide +kernel
theorem dX12_partOf_73 : decode cX12_partOf 73 = .ok (.iload_n 2, 1) := by decide +kernel
theorem dX12_partOf_74 : decode cX12_partOf 74 = .ok (.bipush 8, 2) := by decide +kernel
theorem dX12_partOf_76 : decode cX12_partOf 76 = .ok (.idiv, 1) := by decide +kernel
theorem dX12_partOf_77 : decode cX12_partOf 77 = .ok (.iadd, 1) := by decide +kernel
theorem dX12_partOf_78 : decode cX12_partOf 78 = .ok (.ireturn, 1) := by decide +kernel
theorem dX12_partOf_79 : decode cX12_partOf 79 = .ok (.iload_n 2, 1) := by decide +kernel
theorem dX12_partOf_80 : decode cX12_partOf 80 = .ok (.iconst 2, 1) := by decide +kernel
theorem dX12_partOf_81 : decode cX12_partOf 81 = .ok (.idiv, 1) := by decide +kernel
theorem dX12_partOf_82 : decode cX12_partOf 82 = .ok (.iconst 4, 1) := by decide +kernel
theorem dX12_partOf_83 : decode cX12_partOf 83 = .ok (.irem, 1) := by decide +kernel
theorem dX12_partOf_84 : decode cX12_partOf 84 = .ok (.ireturn, 1) := by decide +kernel
theorem dX12_partOf_85 : decode cX12_partOf 85 = .ok (.iload_n 2, 1) := by decide +kernel
theorem dX12_partOf_86 : decode cX12_partOf 86 = .ok (.iconst 2, 1) := by decide +kernel
theorem dX12_partOf_87 : decode cX12_partOf 87 = .ok (.irem, 1) := by decide +kernel
theorem dX12_partOf_88 : decode cX12_partOf 88 = .ok (.ireturn, 1) := by decide +kernel
theorem dX12_partOf_89 : decode cX12_partOf 89 = .ok (.iload_n 3, 1) := by decide +kernel
theorem dX12_partOf_90 : decode cX12_partOf 90 = .ok (.bipush 100, 2) := by decide +kernel
theorem dX12_partOf_92 : decode cX12_partOf 92 = .ok (.idiv, 1) := by decide +kernel
theorem dX12_partOf_93 : decode cX12_partOf 93 = .ok (.ireturn, 1) := by decide +kernel
theorem dX12_partOf_94 : decode cX12_partOf 94 = .ok (.iload_n 3, 1) := by decide +kernel
theorem dX12_partOf_95 : decode cX12_partOf 95 = .ok (.bipush 100, 2) := by decide +kernel
theorem dX12_partOf_97 : decode cX12_partOf 97 = .ok (.irem, 1) := by decide +kernel
theorem dX12_partOf_98 : decode cX12_partOf 98 = .ok (.ireturn, 1) := by decide +kernel
theorem dX12_chosenIs_0 : decode cX12_chosenIs 0 = .ok (.aload_n 0, 1) := by decide +kernel
theorem dX12_chosenIs_1 : decode cX12_chosenIs 1 = .ok (.iload_n 1, 1) := by decide +kernel
theorem dX12_chosenIs_2 : decode cX12_chosenIs 2 = .ok (.invokevirtual 192, 3) := by decide +kernel
theorem dX12_chosenIs_5 : decode cX12_chosenIs 5 = .ok (.iload_n 2, 1) := by decide +kernel
theorem dX12_chosenIs_6 : decode cX12_chosenIs 6 = .ok (.ifCond .ge 10, 3) := by decide +kernel
theorem dX12_chosenIs_9 : decode cX12_chosenIs 9 = .ok (.aload_n 0, 1) := by decide +kernel
theorem dX12_chosenIs_10 : decode cX12_chosenIs 10 = .ok (.getfield 180, 3) := by decide +kernel
theorem dX12_chosenIs_13 : decode cX12_chosenIs 13 = .ok (.goto 26, 3) := by decide +kernel
theorem dX12_chosenIs_16 : decode cX12_chosenIs 16 = .ok (.iload_n 2, 1) := by decide +kernel
theorem dX12_chosenIs_17 : decode cX12_chosenIs 17 = .ok (.aload_n 0, 1) := by decide +kernel
theorem dX12_chosenIs_18 : decode cX12_chosenIs 18 = .ok (.getfield 180, 3) := by decide +kernel
theorem dX12_chosenIs_21 : decode cX12_chosenIs 21 = .ok (.if_icmp .ge 16, 3) := by decide +kernel
theorem dX12_chosenIs_24 : decode cX12_chosenIs 24 = .ok (.aload_n 0, 1) := by decide +kernel
theorem dX12_chosenIs_25 : decode cX12_chosenIs 25 = .ok (.getfield 41, 3) := by decide +kernel
theorem dX12_chosenIs_28 : decode cX12_chosenIs 28 = .ok (.iload_n 2, 1) := by decide +kernel
theorem dX12_chosenIs_29 : decode cX12_chosenIs 29 = .ok (.iaload, 1) := by decide +kernel
theorem dX12_chosenIs_30 : decode cX12_chosenIs 30 = .ok (.iload_n 3, 1) := by decide +kernel
theorem dX12_chosenIs_31 : decode cX12_chosenIs 31 = .ok (.invokestatic 196, 3) := by decide +kernel
theorem dX12_chosenIs_34 : decode cX12_chosenIs 34 = .ok (.goto 5, 3) := by decide +kernel
theorem dX12_chosenIs_37 : decode cX12_chosenIs 37 = .ok (.bipush (-4), 2) := by decide +kernel
theorem dX12_chosenIs_39 : decode cX12_chosenIs 39 = .ok (.ireturn, 1) := by decide +kernel
theorem dX12_best_0 : decode cX12_best 0 = .ok (.iload_n 1, 1) := by decide +kernel
theorem dX12_best_1 : decode cX12_best 1 = .ok (.iconst (-1), 1) := by decide +kernel
theorem dX12_best_2 : decode cX12_best 2 = .ok (.if_icmp .lt 23, 3) := by decide +kernel
theorem dX12_best_5 : decode cX12_best 5 = .ok (.iload_n 2, 1) := by decide +kernel
theorem dX12_best_6 : decode cX12_best 6 = .ok (.iconst 0, 1) := by decide +kernel
theorem dX12_best_7 : decode cX12_best 7 = .ok (.bipush 6, 2) := by decide +kernel
theorem dX12_best_9 : decode cX12_best 9 = .ok (.invokestatic 58, 3) := by decide +kernel
theorem dX12_best_12 : decode cX12_best 12 = .ok (.ifCond .eq 13, 3) := by decide +kernel
theorem dX12_best_15 : decode cX12_best 15 = .ok (.aload_n 0, 1) := by decide +kernel
theorem dX12_best_16 : decode cX12_best 16 = .ok (.iconst 0, 1) := by decide +kernel
theorem dX12_best_17 : decode cX12_best 17 = .ok (.iload_n 1, 1) := by decide +kernel
theorem dX12_best_18 : decode cX12_best 18 = .ok (.iload_n 2, 1) := by decide +kernel
theorem dX12_best_19 : decode cX12_best 19 = .ok (.invokevirtual 199, 3) := by decide +kernel
theorem dX12_best_22 : decode cX12_best 22 = .ok (.goto 4, 3) := by decide +kernel
theorem dX12_best_25 : decode cX12_best 25 = .ok (.iconst (-1), 1) := by decide +kernel
theorem dX12_best_26 : decode cX12_best 26 = .ok (.ireturn, 1) := by decide +kernel
theorem dX12_spread_0 : decode cX12_spread 0 = .ok (.iload_n 1, 1) := by decide +kernel
theorem dX12_spread_1 : decode cX12_spread 1 = .ok (.iconst 1, 1) := by decide +kernel
theorem dX12_spread_2 : decode cX12_spread 2 = .ok (.bipush 20, 2) := by decide +kernel
theorem dX12_spread_4 : decode cX12_spread 4 = .ok (.invokestatic 58, 3) := by decide +kernel
theorem dX12_spread_7 : decode cX12_spread 7 = .ok (.ifCond .eq 28, 3) := by decide +kernel
theorem dX12_spread_10 : decode cX12_spread 10 = .ok (.iload_n 2, 1) := by decide +kernel
theorem dX12_spread_11 : decode cX12_spread 11 = .ok (.iconst (-1), 1) := by decide +kernel
theorem dX12_spread_12 : decode cX12_spread 12 = .ok (.if_icmp .lt 23, 3) := by decide +kernel
theorem dX12_spread_15 : decode cX12_spread 15 = .ok (.iload_n 3, 1) := by decide +kernel
theorem dX12_spread_16 : decode cX12_spread 16 = .ok (.iconst 0, 1) := by decide +kernel
theorem dX12_spread_17 : decode cX12_spread 17 = .ok (.bipush 6, 2) := by decide +kernel
theorem dX12_spread_19 : decode cX12_spread 19 = .ok (.invokestatic 58, 3) := by decide +kernel
theorem dX12_spread_22 : decode cX12_spread 22 = .ok (.ifCond .eq 13, 3) := by decide +kernel
theorem dX12_spread_25 : decode cX12_spread 25 = .ok (.aload_n 0, 1) := by decide +kernel
theorem dX12_spread_26 : decode cX12_spread 26 = .ok (.iload_n 1, 1) := by decide +kernel
theorem dX12_spread_27 : decode cX12_spread 27 = .ok (.iload_n 2, 1) := by decide +kernel
theorem dX12_spread_28 : decode cX12_spread 28 = .ok (.iload_n 3, 1) := by decide +kernel
theorem dX12_spread_29 : decode cX12_spread 29 = .ok (.invokevirtual 199, 3) := by decide +kernel
theorem dX12_spread_32 : decode cX12_spread 32 = .ok (.goto 4, 3) := by decide +kernel
theorem dX12_spread_35 : decode cX12_spread 35 = .ok (.iconst (-1), 1) := by decide +kernel
theorem dX12_spread_36 : decode cX12_spread 36 = .ok (.ireturn, 1) := by decide +kernel
theorem dX12_takeOne_0 : decode cX12_takeOne 0 = .ok (.aload_n 0, 1) := by decide +kernel
theorem dX12_takeOne_1 : decode cX12_takeOne 1 = .ok (.getfield 7, 3) := by decide +kernel
theorem dX12_takeOne_4 : decode cX12_takeOne 4 = .ok (.sipush 144, 3) := by decide +kernel
theorem dX12_takeOne_7 : decode cX12_takeOne 7 = .ok (.iaload, 1) := by decide +kernel
theorem dX12_takeOne_8 : decode cX12_takeOne 8 = .ok (.bipush 8, 2) := by decide +kernel
theorem dX12_takeOne_10 : decode cX12_takeOne 10 = .ok (.if_icmp .ne 6, 3) := by decide +kernel
theorem dX12_takeOne_13 : decode cX12_takeOne 13 = .ok (.bipush (-3), 2) := by decide +kernel
theorem dX12_takeOne_15 : decode cX12_takeOne 15 = .ok (.ireturn, 1) := by decide +kernel
theorem dX12_takeOne_16 : decode cX12_takeOne 16 = .ok (.aload_n 0, 1) := by decide +kernel
theorem dX12_takeOne_17 : decode cX12_takeOne 17 = .ok (.iconst 0, 1) := by decide +kernel
theorem dX12_takeOne_18 : decode cX12_takeOne 18 = .ok (.invokevirtual 192, 3) := by decide +kernel
theorem dX12_takeOne_21 : decode cX12_takeOne 21 = .ok (.aload_n 0, 1) := by decide +kernel
theorem dX12_takeOne_22 : decode cX12_takeOne 22 = .ok (.getfield 180, 3) := by decide +kernel
theorem dX12_takeOne_25 : decode cX12_takeOne 25 = .ok (.ifCond .eq 17, 3) := by decide +kernel
theorem dX12_takeOne_28 : decode cX12_takeOne 28 = .ok (.aload_n 0, 1) := by decide +kernel
theorem dX12_takeOne_29 : decode cX12_takeOne 29 = .ok (.getfield 41, 3) := by decide +kernel
theorem dX12_takeOne_32 : decode cX12_takeOne 32 = .ok (.iconst 0, 1) := by decide +kernel
theorem dX12_takeOne_33 : decode cX12_takeOne 33 = .ok (.iaload, 1) := by decide +kernel
theorem dX12_takeOne_34 : decode cX12_takeOne 34 = .ok (.iconst 5, 1) := by decide +kernel
theorem dX12_takeOne_35 : decode cX12_takeOne 35 = .ok (.invokestatic 196, 3) := by decide +kernel
theorem dX12_takeOne_38 : decode cX12_takeOne 38 = .ok (.iload_n 2, 1) := by decide +kernel
theorem dX12_takeOne_39 : decode cX12_takeOne 39 = .ok (.if_icmp .le 6, 3) := by decide +kernel
theorem dX12_takeOne_42 : decode cX12_takeOne 42 = .ok (.bipush (-2), 2) := by decide +kernel
theorem dX12_takeOne_44 : decode cX12_takeOne 44 = .ok (.ireturn, 1) := by decide +kernel
theorem dX12_takeOne_45 : decode cX12_takeOne 45 = .ok (.aload_n 0, 1) := by decide +kernel
theorem dX12_takeOne_46 : decode cX12_takeOne 46 = .ok (.getfield 41, 3) := by decide +kernel
theorem dX12_takeOne_49 : decode cX12_takeOne 49 = .ok (.iconst 0, 1) := by decide +kernel
theorem dX12_takeOne_50 : decode cX12_takeOne 50 = .ok (.iaload, 1) := by decide +kernel
theorem dX12_takeOne_51 : decode cX12_takeOne 51 = .ok (.istore_n 3, 1) := by decide +kernel
theorem dX12_takeOne_52 : decode cX12_takeOne 52 = .ok (.iload_n 3, 1) := by decide +kernel
theorem dX12_takeOne_53 : decode cX12_takeOne 53 = .ok (.iconst 0, 1) := by decide +kernel
theorem dX12_takeOne_54 : decode cX12_takeOne 54 = .ok (.invokestatic 196, 3) := by decide +kernel
theorem dX12_takeOne_57 : decode cX12_takeOne 57 = .ok (.istore 4, 2) := by decide +kernel
theorem dX12_takeOne_59 : decode cX12_takeOne 59 = .ok (.iload_n 3, 1) := by decide +kernel
theorem dX12_takeOne_60 : decode cX12_takeOne 60 = .ok (.iconst 1, 1) := by decide +kernel
theorem dX12_takeOne_61 : decode cX12_takeOne 61 = .ok (.invokestatic 196, 3) := by decide +kernel
theorem dX12_takeOne_64 : decode cX12_takeOne 64 = .ok (.istore 5, 2) := by decide +kernel
theorem dX12_takeOne_66 : decode cX12_takeOne 66 = .ok (.iload_n 3, 1) := by decide +kernel
theorem dX12_takeOne_67 : decode cX12_takeOne 67 = .ok (.iconst 2, 1) := by decide +kernel
theorem dX12_takeOne_68 : decode cX12_takeOne 68 = .ok (.invokestatic 196, 3) := by decide +kernel
theorem dX12_takeOne_71 : decode cX12_takeOne 71 = .ok (.istore 6, 2) := by decide +kernel
theorem dX12_takeOne_73 : decode cX12_takeOne 73 = .ok (.iload_n 3, 1) := by decide +kernel
theorem dX12_takeOne_74 : decode cX12_takeOne 74 = .ok (.iconst 3, 1) := by decide +kernel
theorem dX12_takeOne_75 : decode cX12_takeOne 75 = .ok (.invokestatic 196, 3) := by decide +kernel
theorem dX12_takeOne_78 : decode cX12_takeOne 78 = .ok (.istore 7, 2) := by decide +kernel
theorem dX12_takeOne_80 : decode cX12_takeOne 80 = .ok (.iload_n 3, 1) := by decide +kernel
theorem dX12_takeOne_81 : decode cX12_takeOne 81 = .ok (.iconst 4, 1) := by decide +kernel
theorem dX12_takeOne_82 : decode cX12_takeOne 82 = .ok (.invokestatic 196, 3) := by decide +kernel
theorem dX12_takeOne_85 : decode cX12_takeOne 85 = .ok (.istore 8, 2) := by decide +kernel
theorem dX12_takeOne_87 : decode cX12_takeOne 87 = .ok (.aload_n 0, 1) := by decide +kernel
theorem dX12_takeOne_88 : decode cX12_takeOne 88 = .ok (.iload 4, 2) := by decide +kernel
theorem dX12_takeOne_90 : decode cX12_takeOne 90 = .ok (.iload 5, 2) := by decide +kernel
theorem dX12_takeOne_92 : decode cX12_takeOne 92 = .ok (.iload 6, 2) := by decide +kernel
theorem dX12_takeOne_94 : decode cX12_takeOne 94 = .ok (.iload 7, 2) := by decide +kernel
theorem dX12_takeOne_96 : decode cX12_takeOne 96 = .ok (.iload 8, 2) := by decide +kernel
theorem dX12_takeOne_98 : decode cX12_takeOne 98 = .ok (.iload_n 1, 1) := by decide +kernel
theorem dX12_takeOne_99 : decode cX12_takeOne 99 = .ok (.invokevirtual 173, 3) := by decide +kernel
theorem dX12_takeOne_102 : decode cX12_takeOne 102 = .ok (.istore 9, 2) := by decide +kernel
theorem dX12_takeOne_104 : decode cX12_takeOne 104 = .ok (.iload 9, 2) := by decide +kernel
theorem dX12_takeOne_106 : decode cX12_takeOne 106 = .ok (.ifCond .ne 6, 3) := by decide +kernel
theorem dX12_takeOne_109 : decode cX12_takeOne 109 = .ok (.bipush (-2), 2) := by decide +kernel
theorem dX12_takeOne_111 : decode cX12_takeOne 111 = .ok (.ireturn, 1) := by decide +kernel
theorem dX12_takeOne_112 : decode cX12_takeOne 112 = .ok (.aload_n 0, 1) := by decide +kernel
theorem dX12_takeOne_113 : decode cX12_takeOne 113 = .ok (.invokevirtual 124, 3) := by decide +kernel
theorem dX12_takeOne_116 : decode cX12_takeOne 116 = .ok (.iconst 0, 1) := by decide +kernel
theorem dX12_takeOne_117 : decode cX12_takeOne 117 = .ok (.istore 10, 2) := by decide +kernel
theorem dX12_takeOne_119 : decode cX12_takeOne 119 = .ok (.iload 10, 2) := by decide +kernel
theorem dX12_takeOne_121 : decode cX12_takeOne 121 = .ok (.bipush 121, 2) := by decide +kernel
theorem dX12_takeOne_123 : decode cX12_takeOne 123 = .ok (.if_icmp .ge 47, 3) := by decide +kernel
theorem dX12_takeOne_126 : decode cX12_takeOne 126 = .ok (.aload_n 0, 1) := by decide +kernel
theorem dX12_takeOne_127 : decode cX12_takeOne 127 = .ok (.getfield 7, 3) := by decide +kernel
theorem dX12_takeOne_130 : decode cX12_takeOne 130 = .ok (.iload 10, 2) := by decide +kernel
theorem dX12_takeOne_132 : decode cX12_takeOne 132 = .ok (.aload_n 0, 1) := by decide +kernel
theorem dX12_takeOne_133 : decode cX12_takeOne 133 = .ok (.iload 10, 2) := by decide +kernel
theorem dX12_takeOne_135 : decode cX12_takeOne 135 = .ok (.iload 4, 2) := by decide +kernel
theorem dX12_takeOne_137 : decode cX12_takeOne 137 = .ok (.iload 5, 2) := by decide +kernel
theorem dX12_takeOne_139 : decode cX12_takeOne 139 = .ok (.iload 6, 2) := by decide +kernel
theorem dX12_takeOne_141 : decode cX12_takeOne 141 = .ok (.iload 7, 2) := by decide +kernel
theorem dX12_takeOne_143 : decode cX12_takeOne 143 = .ok (.iload 8, 2) := by decide +kernel
theorem dX12_takeOne_145 : decode cX12_takeOne 145 = .ok (.iload_n 1, 1) := by decide +kernel
theorem dX12_takeOne_146 : decode cX12_takeOne 146 = .ok (.invokevirtual 169, 3) := by decide +kernel
theorem dX12_takeOne_149 : decode cX12_takeOne 149 = .ok (.ifCond .eq 7, 3) := by decide +kernel
theorem dX12_takeOne_152 : decode cX12_takeOne 152 = .ok (.iconst 0, 1) := by decide +kernel
theorem dX12_takeOne_153 : decode cX12_takeOne 153 = .ok (.goto 10, 3) := by decide +kernel
theorem dX12_takeOne_156 : decode cX12_takeOne 156 = .ok (.aload_n 0, 1) := by decide +kernel
theorem dX12_takeOne_157 : decode cX12_takeOne 157 = .ok (.getfield 7, 3) := by decide +kernel
theorem dX12_takeOne_160 : decode cX12_takeOne 160 = .ok (.iload 10, 2) := by decide +kernel
theorem dX12_takeOne_162 : decode cX12_takeOne 162 = .ok (.iaload, 1) := by decide +kernel
theorem dX12_takeOne_163 : decode cX12_takeOne 163 = .ok (.iastore, 1) := by decide +kernel
theorem dX12_takeOne_164 : decode cX12_takeOne 164 = .ok (.iinc 10 1, 3) := by decide +kernel
theorem dX12_takeOne_167 : decode cX12_takeOne 167 = .ok (.goto (-48), 3) := by decide +kernel
theorem dX12_takeOne_170 : decode cX12_takeOne 170 = .ok (.iconst 0, 1) := by decide +kernel
theorem dX12_takeOne_171 : decode cX12_takeOne 171 = .ok (.istore 10, 2) := by decide +kernel
theorem dX12_takeOne_173 : decode cX12_takeOne 173 = .ok (.iload 10, 2) := by decide +kernel
theorem dX12_takeOne_175 : decode cX12_takeOne 175 = .ok (.bipush 6, 2) := by decide +kernel
theorem dX12_takeOne_177 : decode cX12_takeOne 177 = .ok (.if_icmp .ge 34, 3) := by decide +kernel
theorem dX12_takeOne_180 : decode cX12_takeOne 180 = .ok (.aload_n 0, 1) := by decide +kernel
theorem dX12_takeOne_181 : decode cX12_takeOne 181 = .ok (.getfield 16, 3) := by decide +kernel
theorem dX12_takeOne_184 : decode cX12_takeOne 184 = .ok (.bipush 7, 2) := by decide +kernel
theorem dX12_takeOne_186 : decode cX12_takeOne 186 = .ok (.aload_n 0, 1) := by decide +kernel
theorem dX12_takeOne_187 : decode cX12_takeOne 187 = .ok (.getfield 7, 3) := by decide +kernel
theorem dX12_takeOne_190 : decode cX12_takeOne 190 = .ok (.sipush 144, 3) := by decide +kernel
theorem dX12_takeOne_193 : decode cX12_takeOne 193 = .ok (.iaload, 1) := by decide +kernel
theorem dX12_takeOne_194 : decode cX12_takeOne 194 = .ok (.imul, 1) := by decide +kernel
theorem dX12_takeOne_195 : decode cX12_takeOne 195 = .ok (.iload 10, 2) := by decide +kernel
theorem dX12_takeOne_197 : decode cX12_takeOne 197 = .ok (.iadd, 1) := by decide +kernel
theorem dX12_takeOne_198 : decode cX12_takeOne 198 = .ok (.iload_n 3, 1) := by decide +kernel
theorem dX12_takeOne_199 : decode cX12_takeOne 199 = .ok (.iload 10, 2) := by decide +kernel
theorem dX12_takeOne_201 : decode cX12_takeOne 201 = .ok (.invokestatic 196, 3) := by decide +kernel
theorem dX12_takeOne_204 : decode cX12_takeOne 204 = .ok (.iastore, 1) := by decide +kernel
theorem dX12_takeOne_205 : decode cX12_takeOne 205 = .ok (.iinc 10 1, 3) := by decide +kernel
theorem dX12_takeOne_208 : decode cX12_takeOne 208 = .ok (.goto (-35), 3) := by decide +kernel
theorem dX12_takeOne_211 : decode cX12_takeOne 211 = .ok (.aload_n 0, 1) := by decide +kernel
theorem dX12_takeOne_212 : decode cX12_takeOne 212 = .ok (.getfield 16, 3) := by decide +kernel
theorem dX12_takeOne_215 : decode cX12_takeOne 215 = .ok (.bipush 7, 2) := by decide +kernel
theorem dX12_takeOne_217 : decode cX12_takeOne 217 = .ok (.aload_n 0, 1) := by decide +kernel
theorem dX12_takeOne_218 : decode cX12_takeOne 218 = .ok (.getfield 7, 3) := by decide +kernel
theorem dX12_takeOne_221 : decode cX12_takeOne 221 = .ok (.sipush 144, 3) := by decide +kernel
theorem dX12_takeOne_224 : decode cX12_takeOne 224 = .ok (.iaload, 1) := by decide +kernel
theorem dX12_takeOne_225 : decode cX12_takeOne 225 = .ok (.imul, 1) := by decide +kernel
theorem dX12_takeOne_226 : decode cX12_takeOne 226 = .ok (.bipush 6, 2) := by decide +kernel
theorem dX12_takeOne_228 : decode cX12_takeOne 228 = .ok (.iadd, 1) := by decide +kernel
theorem dX12_takeOne_229 : decode cX12_takeOne 229 = .ok (.iload 9, 2) := by decide +kernel
theorem dX12_takeOne_231 : decode cX12_takeOne 231 = .ok (.iastore, 1) := by decide +kernel
theorem dX12_takeOne_232 : decode cX12_takeOne 232 = .ok (.aload_n 0, 1) := by decide +kernel
theorem dX12_takeOne_233 : decode cX12_takeOne 233 = .ok (.getfield 7, 3) := by decide +kernel
theorem dX12_takeOne_236 : decode cX12_takeOne 236 = .ok (.sipush 144, 3) := by decide +kernel
theorem dX12_takeOne_239 : decode cX12_takeOne 239 = .ok (.dup2, 1) := by decide +kernel
theorem dX12_takeOne_240 : decode cX12_takeOne 240 = .ok (.iaload, 1) := by decide +kernel
theorem dX12_takeOne_241 : decode cX12_takeOne 241 = .ok (.iconst 1, 1) := by decide +kernel
theorem dX12_takeOne_242 : decode cX12_takeOne 242 = .ok (.iadd, 1) := by decide +kernel
theorem dX12_takeOne_243 : decode cX12_takeOne 243 = .ok (.iastore, 1) := by decide +kernel
theorem dX12_takeOne_244 : decode cX12_takeOne 244 = .ok (.iload 9, 2) := by decide +kernel
theorem dX12_takeOne_246 : decode cX12_takeOne 246 = .ok (.ireturn, 1) := by decide +kernel
theorem dX12_isTaking_0 : decode cX12_isTaking 0 = .ok (.iload_n 0, 1) := by decide +kernel
theorem dX12_isTaking_1 : decode cX12_isTaking 1 = .ok (.iconst 0, 1) := by decide +kernel
theorem dX12_isTaking_2 : decode cX12_isTaking 2 = .ok (.iconst 3, 1) := by decide +kernel
theorem dX12_isTaking_3 : decode cX12_isTaking 3 = .ok (.invokestatic 58, 3) := by decide +kernel
theorem dX12_isTaking_6 : decode cX12_isTaking 6 = .ok (.ifCond .eq 18, 3) := by decide +kernel
theorem dX12_isTaking_9 : decode cX12_isTaking 9 = .ok (.iload_n 1, 1) := by decide +kernel
theorem dX12_isTaking_10 : decode cX12_isTaking 10 = .ok (.iconst 0, 1) := by decide +kernel
theorem dX12_isTaking_11 : decode cX12_isTaking 11 = .ok (.sipush 990, 3) := by decide +kernel
theorem dX12_isTaking_14 : decode cX12_isTaking 14 = .ok (.invokestatic 58, 3) := by decide +kernel
theorem dX12_isTaking_17 : decode cX12_isTaking 17 = .ok (.ifCond .eq 7, 3) := by decide +kernel
theorem dX12_isTaking_20 : decode cX12_isTaking 20 = .ok (.iconst 1, 1) := by decide +kernel
theorem dX12_isTaking_21 : decode cX12_isTaking 21 = .ok (.goto 4, 3) := by decide +kernel
theorem dX12_isTaking_24 : decode cX12_isTaking 24 = .ok (.iconst 0, 1) := by decide +kernel
theorem dX12_isTaking_25 : decode cX12_isTaking 25 = .ok (.ireturn, 1) := by decide +kernel
theorem dX12_take_0 : decode cX12_take 0 = .ok (.iload_n 1, 1) := by decide +kernel
theorem dX12_take_1 : decode cX12_take 1 = .ok (.iload_n 2, 1) := by decide +kernel
theorem dX12_take_2 : decode cX12_take 2 = .ok (.invokestatic 203, 3) := by decide +kernel
theorem dX12_take_5 : decode cX12_take 5 = .ok (.ifCond .eq 12, 3) := by decide +kernel
theorem dX12_take_8 : decode cX12_take 8 = .ok (.aload_n 0, 1) := by decide +kernel
theorem dX12_take_9 : decode cX12_take 9 = .ok (.iload_n 1, 1) := by decide +kernel
theorem dX12_take_10 : decode cX12_take 10 = .ok (.iload_n 2, 1) := by decide +kernel
theorem dX12_take_11 : decode cX12_take 11 = .ok (.invokevirtual 206, 3) := by decide +kernel
theorem dX12_take_14 : decode cX12_take 14 = .ok (.goto 4, 3) := by decide +kernel
theorem dX12_take_17 : decode cX12_take 17 = .ok (.iconst (-1), 1) := by decide +kernel
theorem dX12_take_18 : decode cX12_take 18 = .ok (.ireturn, 1) := by decide +kernel
theorem dX12_takes_0 : decode cX12_takes 0 = .ok (.iload_n 1, 1) := by decide +kernel
theorem dX12_takes_1 : decode cX12_takes 1 = .ok (.iload_n 2, 1) := by decide +kernel
theorem dX12_takes_2 : decode cX12_takes 2 = .ok (.invokestatic 203, 3) := by decide +kernel
theorem dX12_takes_5 : decode cX12_takes 5 = .ok (.ifCond .ne 5, 3) := by decide +kernel
theorem dX12_takes_8 : decode cX12_takes 8 = .ok (.iconst (-1), 1) := by decide +kernel
theorem dX12_takes_9 : decode cX12_takes 9 = .ok (.ireturn, 1) := by decide +kernel
theorem dX12_takes_10 : decode cX12_takes 10 = .ok (.iconst 0, 1) := by decide +kernel
theorem dX12_takes_11 : decode cX12_takes 11 = .ok (.istore_n 3, 1) := by decide +kernel
theorem dX12_takes_12 : decode cX12_takes 12 = .ok (.iload_n 3, 1) := by decide +kernel
theorem dX12_takes_13 : decode cX12_takes 13 = .ok (.bipush 8, 2) := by decide +kernel
theorem dX12_takes_15 : decode cX12_takes 15 = .ok (.if_icmp .ge 18, 3) := by decide +kernel
theorem dX12_takes_18 : decode cX12_takes 18 = .ok (.aload_n 0, 1) := by decide +kernel
theorem dX12_takes_19 : decode cX12_takes 19 = .ok (.iload_n 1, 1) := by decide +kernel
theorem dX12_takes_20 : decode cX12_takes 20 = .ok (.iload_n 2, 1) := by decide +kernel
theorem dX12_takes_21 : decode cX12_takes 21 = .ok (.invokevirtual 206, 3) := by decide +kernel
theorem dX12_takes_24 : decode cX12_takes 24 = .ok (.ifCond .le 9, 3) := by decide +kernel
theorem dX12_takes_27 : decode cX12_takes 27 = .ok (.iinc 3 1, 3) := by decide +kernel
theorem dX12_takes_30 : decode cX12_takes 30 = .ok (.goto (-18), 3) := by decide +kernel
theorem dX12_takes_33 : decode cX12_takes 33 = .ok (.iload_n 3, 1) := by decide +kernel
theorem dX12_takes_34 : decode cX12_takes 34 = .ok (.ireturn, 1) := by decide +kernel
theorem dX12_ledger_0 : decode cX12_ledger 0 = .ok (.iload_n 1, 1) := by decide +kernel
theorem dX12_ledger_1 : decode cX12_ledger 1 = .ok (.iconst (-1), 1) := by decide +kernel
theorem dX12_ledger_2 : decode cX12_ledger 2 = .ok (.if_icmp .lt 13, 3) := by decide +kernel
theorem dX12_ledger_5 : decode cX12_ledger 5 = .ok (.iload_n 2, 1) := by decide +kernel
theorem dX12_ledger_6 : decode cX12_ledger 6 = .ok (.iconst 0, 1) := by decide +kernel
theorem dX12_ledger_7 : decode cX12_ledger 7 = .ok (.bipush 6, 2) := by decide +kernel
theorem dX12_ledger_9 : decode cX12_ledger 9 = .ok (.invokestatic 58, 3) := by decide +kernel
theorem dX12_ledger_12 : decode cX12_ledger 12 = .ok (.ifCond .ne 5, 3) := by decide +kernel
theorem dX12_ledger_15 : decode cX12_ledger 15 = .ok (.iconst (-1), 1) := by decide +kernel
theorem dX12_ledger_16 : decode cX12_ledger 16 = .ok (.ireturn, 1) := by decide +kernel
theorem dX12_ledger_17 : decode cX12_ledger 17 = .ok (.iload_n 1, 1) := by decide +kernel
theorem dX12_ledger_18 : decode cX12_ledger 18 = .ok (.ifCond .ge 14, 3) := by decide +kernel
theorem dX12_ledger_21 : decode cX12_ledger 21 = .ok (.aload_n 0, 1) := by decide +kernel
theorem dX12_ledger_22 : decode cX12_ledger 22 = .ok (.getfield 7, 3) := by decide +kernel
theorem dX12_ledger_25 : decode cX12_ledger 25 = .ok (.sipush 144, 3) := by decide +kernel
theorem dX12_ledger_28 : decode cX12_ledger 28 = .ok (.iaload, 1) := by decide +kernel
theorem dX12_ledger_29 : decode cX12_ledger 29 = .ok (.goto 31, 3) := by decide +kernel
theorem dX12_ledger_32 : decode cX12_ledger 32 = .ok (.iload_n 1, 1) := by decide +kernel
theorem dX12_ledger_33 : decode cX12_ledger 33 = .ok (.aload_n 0, 1) := by decide +kernel
theorem dX12_ledger_34 : decode cX12_ledger 34 = .ok (.getfield 7, 3) := by decide +kernel
theorem dX12_ledger_37 : decode cX12_ledger 37 = .ok (.sipush 144, 3) := by decide +kernel
theorem dX12_ledger_40 : decode cX12_ledger 40 = .ok (.iaload, 1) := by decide +kernel
theorem dX12_ledger_41 : decode cX12_ledger 41 = .ok (.if_icmp .ge 17, 3) := by decide +kernel
theorem dX12_ledger_44 : decode cX12_ledger 44 = .ok (.aload_n 0, 1) := by decide +kernel
theorem dX12_ledger_45 : decode cX12_ledger 45 = .ok (.getfield 16, 3) := by decide +kernel
theorem dX12_ledger_48 : decode cX12_ledger 48 = .ok (.bipush 7, 2) := by decide +kernel
theorem dX12_ledger_50 : decode cX12_ledger 50 = .ok (.iload_n 1, 1) := by decide +kernel
theorem dX12_ledger_51 : decode cX12_ledger 51 = .ok (.imul, 1) := by decide +kernel
theorem dX12_ledger_52 : decode cX12_ledger 52 = .ok (.iload_n 2, 1) := by decide +kernel
theorem dX12_ledger_53 : decode cX12_ledger 53 = .ok (.iadd, 1) := by decide +kernel
theorem dX12_ledger_54 : decode cX12_ledger 54 = .ok (.iaload, 1) := by decide +kernel
theorem dX12_ledger_55 : decode cX12_ledger 55 = .ok (.goto 5, 3) := by decide +kernel
theorem dX12_ledger_58 : decode cX12_ledger 58 = .ok (.bipush (-4), 2) := by decide +kernel
theorem dX12_ledger_60 : decode cX12_ledger 60 = .ok (.ireturn, 1) := by decide +kernel
theorem dX12_count_0 : decode cX12_count 0 = .ok (.iload_n 1, 1) := by decide +kernel
theorem dX12_count_1 : decode cX12_count 1 = .ok (.tableswitch 126 0 10 #[59, 64, 69, 74, 83, 92, 101, 106, 111, 116, 121], 59) := by decide +kernel
theorem dX12_count_60 : decode cX12_count 60 = .ok (.aload_n 0, 1) := by decide +kernel
theorem dX12_count_61 : decode cX12_count 61 = .ok (.getfield 44, 3) := by decide +kernel
theorem dX12_count_64 : decode cX12_count 64 = .ok (.ireturn, 1) := by decide +kernel
theorem dX12_count_65 : decode cX12_count 65 = .ok (.aload_n 0, 1) := by decide +kernel
theorem dX12_count_66 : decode cX12_count 66 = .ok (.getfield 47, 3) := by decide +kernel
theorem dX12_count_69 : decode cX12_count 69 = .ok (.ireturn, 1) := by decide +kernel
theorem dX12_count_70 : decode cX12_count 70 = .ok (.aload_n 0, 1) := by decide +kernel
theorem dX12_count_71 : decode cX12_count 71 = .ok (.invokevirtual 114, 3) := by decide +kernel
theorem dX12_count_74 : decode cX12_count 74 = .ok (.ireturn, 1) := by decide +kernel
theorem dX12_count_75 : decode cX12_count 75 = .ok (.aload_n 0, 1) := by decide +kernel
theorem dX12_count_76 : decode cX12_count 76 = .ok (.getfield 7, 3) := by decide +kernel
theorem dX12_count_79 : decode cX12_count 79 = .ok (.sipush 141, 3) := by decide +kernel
theorem dX12_count_82 : decode cX12_count 82 = .ok (.iaload, 1) := by decide +kernel
theorem dX12_count_83 : decode cX12_count 83 = .ok (.ireturn, 1) := by decide +kernel
theorem dX12_count_84 : decode cX12_count 84 = .ok (.aload_n 0, 1) := by decide +kernel
theorem dX12_count_85 : decode cX12_count 85 = .ok (.getfield 7, 3) := by decide +kernel
theorem dX12_count_88 : decode cX12_count 88 = .ok (.sipush 142, 3) := by decide +kernel
theorem dX12_count_91 : decode cX12_count 91 = .ok (.iaload, 1) := by decide +kernel
theorem dX12_count_92 : decode cX12_count 92 = .ok (.ireturn, 1) := by decide +kernel
theorem dX12_count_93 : decode cX12_count 93 = .ok (.aload_n 0, 1) := by decide +kernel
theorem dX12_count_94 : decode cX12_count 94 = .ok (.getfield 7, 3) := by decide +kernel
theorem dX12_count_97 : decode cX12_count 97 = .ok (.sipush 143, 3) := by decide +kernel
theorem dX12_count_100 : decode cX12_count 100 = .ok (.iaload, 1) := by decide +kernel
theorem dX12_count_101 : decode cX12_count 101 = .ok (.ireturn, 1) := by decide +kernel
theorem dX12_count_102 : decode cX12_count 102 = .ok (.aload_n 0, 1) := by decide +kernel
theorem dX12_count_103 : decode cX12_count 103 = .ok (.getfield 105, 3) := by decide +kernel
theorem dX12_count_106 : decode cX12_count 106 = .ok (.ireturn, 1) := by decide +kernel
theorem dX12_count_107 : decode cX12_count 107 = .ok (.aload_n 0, 1) := by decide +kernel
theorem dX12_count_108 : decode cX12_count 108 = .ok (.getfield 62, 3) := by decide +kernel
theorem dX12_count_111 : decode cX12_count 111 = .ok (.ireturn, 1) := by decide +kernel
theorem dX12_count_112 : decode cX12_count 112 = .ok (.aload_n 0, 1) := by decide +kernel
theorem dX12_count_113 : decode cX12_count 113 = .ok (.getfield 19, 3) := by decide +kernel
theorem dX12_count_116 : decode cX12_count 116 = .ok (.ireturn, 1) := by decide +kernel
theorem dX12_count_117 : decode cX12_count 117 = .ok (.aload_n 0, 1) := by decide +kernel
theorem dX12_count_118 : decode cX12_count 118 = .ok (.getfield 108, 3) := by decide +kernel
theorem dX12_count_121 : decode cX12_count 121 = .ok (.ireturn, 1) := by decide +kernel
theorem dX12_count_122 : decode cX12_count 122 = .ok (.aload_n 0, 1) := by decide +kernel
theorem dX12_count_123 : decode cX12_count 123 = .ok (.getfield 111, 3) := by decide +kernel
theorem dX12_count_126 : decode cX12_count 126 = .ok (.ireturn, 1) := by decide +kernel
theorem dX12_count_127 : decode cX12_count 127 = .ok (.iconst (-1), 1) := by decide +kernel
theorem dX12_count_128 : decode cX12_count 128 = .ok (.ireturn, 1) := by decide +kernel
theorem dJ6_bitCount_0f7a4_0 : decode cJ6_bitCount_0f7a4 0 = .ok (.iload_n 0, 1) := by decide +kernel
theorem dJ6_bitCount_0f7a4_1 : decode cJ6_bitCount_0f7a4 1 = .ok (.iload_n 0, 1) := by decide +kernel
theorem dJ6_bitCount_0f7a4_2 : decode cJ6_bitCount_0f7a4 2 = .ok (.iconst 1, 1) := by decide +kernel
theorem dJ6_bitCount_0f7a4_3 : decode cJ6_bitCount_0f7a4 3 = .ok (.iushr, 1) := by decide +kernel
theorem dJ6_bitCount_0f7a4_4 : decode cJ6_bitCount_0f7a4 4 = .ok (.ldc_w 265, 3) := by decide +kernel
theorem dJ6_bitCount_0f7a4_7 : decode cJ6_bitCount_0f7a4 7 = .ok (.iand, 1) := by decide +kernel
