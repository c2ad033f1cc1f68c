theorem dX9_isInside_6 : decode cX9_isInside 6 = .ok (.ifCond .lt 38, 3) := by decide +kernel
theorem dX9_isInside_9 : decode cX9_isInside 9 = .ok (.iload_n 3, 1) := by decide +kernel
theorem dX9_isInside_10 : decode cX9_isInside 10 = .ok (.aload_n 0, 1) := by decide +kernel
theorem dX9_isInside_11 : decode cX9_isInside 11 = .ok (.getfield 25, 3) := by decide +kernel
theorem dX9_isInside_14 : decode cX9_isInside 14 = .ok (.iadd, 1) := by decide +kernel
theorem dX9_isInside_15 : decode cX9_isInside 15 = .ok (.iload_n 1, 1) := by decide +kernel
theorem dX9_isInside_16 : decode cX9_isInside 16 = .ok (.if_icmp .ge 28, 3) := by decide +kernel
theorem dX9_isInside_19 : decode cX9_isInside 19 = .ok (.iload 4, 2) := by decide +kernel
theorem dX9_isInside_21 : decode cX9_isInside 21 = .ok (.aload_n 0, 1) := by decide +kernel
theorem dX9_isInside_22 : decode cX9_isInside 22 = .ok (.getfield 28, 3) := by decide +kernel
theorem dX9_isInside_25 : decode cX9_isInside 25 = .ok (.iadd, 1) := by decide +kernel
theorem dX9_isInside_26 : decode cX9_isInside 26 = .ok (.ifCond .lt 18, 3) := by decide +kernel
theorem dX9_isInside_29 : decode cX9_isInside 29 = .ok (.iload 4, 2) := by decide +kernel
theorem dX9_isInside_31 : decode cX9_isInside 31 = .ok (.aload_n 0, 1) := by decide +kernel
theorem dX9_isInside_32 : decode cX9_isInside 32 = .ok (.getfield 31, 3) := by decide +kernel
theorem dX9_isInside_35 : decode cX9_isInside 35 = .ok (.iadd, 1) := by decide +kernel
theorem dX9_isInside_36 : decode cX9_isInside 36 = .ok (.iload_n 2, 1) := by decide +kernel
theorem dX9_isInside_37 : decode cX9_isInside 37 = .ok (.if_icmp .ge 7, 3) := by decide +kernel
theorem dX9_isInside_40 : decode cX9_isInside 40 = .ok (.iconst 1, 1) := by decide +kernel
theorem dX9_isInside_41 : decode cX9_isInside 41 = .ok (.goto 4, 3) := by decide +kernel
theorem dX9_isInside_44 : decode cX9_isInside 44 = .ok (.iconst 0, 1) := by decide +kernel
theorem dX9_isInside_45 : decode cX9_isInside 45 = .ok (.ireturn, 1) := by decide +kernel
theorem dX10_init_0 : decode cX10_init 0 = .ok (.aload_n 0, 1) := by decide +kernel
theorem dX10_init_1 : decode cX10_init 1 = .ok (.invokespecial 3, 3) := by decide +kernel
theorem dX10_init_4 : decode cX10_init 4 = .ok (.aload_n 0, 1) := by decide +kernel
theorem dX10_init_5 : decode cX10_init 5 = .ok (.bipush 11, 2) := by decide +kernel
theorem dX10_init_7 : decode cX10_init 7 = .ok (.newarray .int, 2) := by decide +kernel
theorem dX10_init_9 : decode cX10_init 9 = .ok (.putfield 9, 3) := by decide +kernel
theorem dX10_init_12 : decode cX10_init 12 = .ok (.return_, 1) := by decide +kernel
theorem dX10_seek_0 : decode cX10_seek 0 = .ok (.iconst 0, 1) := by decide +kernel
theorem dX10_seek_1 : decode cX10_seek 1 = .ok (.istore 6, 2) := by decide +kernel
theorem dX10_seek_3 : decode cX10_seek 3 = .ok (.iconst 0, 1) := by decide +kernel
theorem dX10_seek_4 : decode cX10_seek 4 = .ok (.istore 7, 2) := by decide +kernel
theorem dX10_seek_6 : decode cX10_seek 6 = .ok (.iload 7, 2) := by decide +kernel
theorem dX10_seek_8 : decode cX10_seek 8 = .ok (.bipush 11, 2) := by decide +kernel
theorem dX10_seek_10 : decode cX10_seek 10 = .ok (.if_icmp .ge 81, 3) := by decide +kernel
theorem dX10_seek_13 : decode cX10_seek 13 = .ok (.aload_n 0, 1) := by decide +kernel
theorem dX10_seek_14 : decode cX10_seek 14 = .ok (.getfield 9, 3) := by decide +kernel
theorem dX10_seek_17 : decode cX10_seek 17 = .ok (.iload 7, 2) := by decide +kernel
theorem dX10_seek_19 : decode cX10_seek 19 = .ok (.iconst 0, 1) := by decide +kernel
theorem dX10_seek_20 : decode cX10_seek 20 = .ok (.iastore, 1) := by decide +kernel
theorem dX10_seek_21 : decode cX10_seek 21 = .ok (.iconst 0, 1) := by decide +kernel
theorem dX10_seek_22 : decode cX10_seek 22 = .ok (.istore 8, 2) := by decide +kernel
theorem dX10_seek_24 : decode cX10_seek 24 = .ok (.iload 8, 2) := by decide +kernel
theorem dX10_seek_26 : decode cX10_seek 26 = .ok (.bipush 11, 2) := by decide +kernel
theorem dX10_seek_28 : decode cX10_seek 28 = .ok (.if_icmp .ge 57, 3) := by decide +kernel
theorem dX10_seek_31 : decode cX10_seek 31 = .ok (.aload_n 1, 1) := by decide +kernel
theorem dX10_seek_32 : decode cX10_seek 32 = .ok (.iload 8, 2) := by decide +kernel
theorem dX10_seek_34 : decode cX10_seek 34 = .ok (.iload 7, 2) := by decide +kernel
theorem dX10_seek_36 : decode cX10_seek 36 = .ok (.invokevirtual 15, 3) := by decide +kernel
theorem dX10_seek_39 : decode cX10_seek 39 = .ok (.iconst 1, 1) := by decide +kernel
theorem dX10_seek_40 : decode cX10_seek 40 = .ok (.if_icmp .ne 39, 3) := by decide +kernel
theorem dX10_seek_43 : decode cX10_seek 43 = .ok (.aload_n 1, 1) := by decide +kernel
theorem dX10_seek_44 : decode cX10_seek 44 = .ok (.aload_n 2, 1) := by decide +kernel
theorem dX10_seek_45 : decode cX10_seek 45 = .ok (.iload 8, 2) := by decide +kernel
theorem dX10_seek_47 : decode cX10_seek 47 = .ok (.iload_n 3, 1) := by decide +kernel
theorem dX10_seek_48 : decode cX10_seek 48 = .ok (.isub, 1) := by decide +kernel
theorem dX10_seek_49 : decode cX10_seek 49 = .ok (.iload 7, 2) := by decide +kernel
theorem dX10_seek_51 : decode cX10_seek 51 = .ok (.iload 4, 2) := by decide +kernel
theorem dX10_seek_53 : decode cX10_seek 53 = .ok (.isub, 1) := by decide +kernel
theorem dX10_seek_54 : decode cX10_seek 54 = .ok (.iload 5, 2) := by decide +kernel
theorem dX10_seek_56 : decode cX10_seek 56 = .ok (.invokestatic 21, 3) := by decide +kernel
theorem dX10_seek_59 : decode cX10_seek 59 = .ok (.ifCond .eq 20, 3) := by decide +kernel
theorem dX10_seek_62 : decode cX10_seek 62 = .ok (.aload_n 0, 1) := by decide +kernel
theorem dX10_seek_63 : decode cX10_seek 63 = .ok (.getfield 9, 3) := by decide +kernel
theorem dX10_seek_66 : decode cX10_seek 66 = .ok (.iload 7, 2) := by decide +kernel
theorem dX10_seek_68 : decode cX10_seek 68 = .ok (.dup2, 1) := by decide +kernel
theorem dX10_seek_69 : decode cX10_seek 69 = .ok (.iaload, 1) := by decide +kernel
theorem dX10_seek_70 : decode cX10_seek 70 = .ok (.iconst 1, 1) := by decide +kernel
theorem dX10_seek_71 : decode cX10_seek 71 = .ok (.iload 8, 2) := by decide +kernel
theorem dX10_seek_73 : decode cX10_seek 73 = .ok (.ishl, 1) := by decide +kernel
theorem dX10_seek_74 : decode cX10_seek 74 = .ok (.ior, 1) := by decide +kernel
theorem dX10_seek_75 : decode cX10_seek 75 = .ok (.iastore, 1) := by decide +kernel
theorem dX10_seek_76 : decode cX10_seek 76 = .ok (.iinc 6 1, 3) := by decide +kernel
theorem dX10_seek_79 : decode cX10_seek 79 = .ok (.iinc 8 1, 3) := by decide +kernel
theorem dX10_seek_82 : decode cX10_seek 82 = .ok (.goto (-58), 3) := by decide +kernel
theorem dX10_seek_85 : decode cX10_seek 85 = .ok (.iinc 7 1, 3) := by decide +kernel
theorem dX10_seek_88 : decode cX10_seek 88 = .ok (.goto (-82), 3) := by decide +kernel
theorem dX10_seek_91 : decode cX10_seek 91 = .ok (.iload 6, 2) := by decide +kernel
theorem dX10_seek_93 : decode cX10_seek 93 = .ok (.ireturn, 1) := by decide +kernel
theorem dX10_isNear_0 : decode cX10_isNear 0 = .ok (.iconst 0, 1) := by decide +kernel
theorem dX10_isNear_1 : decode cX10_isNear 1 = .ok (.istore 5, 2) := by decide +kernel
theorem dX10_isNear_3 : decode cX10_isNear 3 = .ok (.iload 5, 2) := by decide +kernel
theorem dX10_isNear_5 : decode cX10_isNear 5 = .ok (.aload_n 1, 1) := by decide +kernel
theorem dX10_isNear_6 : decode cX10_isNear 6 = .ok (.getfield 25, 3) := by decide +kernel
theorem dX10_isNear_9 : decode cX10_isNear 9 = .ok (.if_icmp .ge 38, 3) := by decide +kernel
theorem dX10_isNear_12 : decode cX10_isNear 12 = .ok (.aload_n 0, 1) := by decide +kernel
theorem dX10_isNear_13 : decode cX10_isNear 13 = .ok (.iload_n 2, 1) := by decide +kernel
theorem dX10_isNear_14 : decode cX10_isNear 14 = .ok (.aload_n 1, 1) := by decide +kernel
theorem dX10_isNear_15 : decode cX10_isNear 15 = .ok (.getfield 31, 3) := by decide +kernel
theorem dX10_isNear_18 : decode cX10_isNear 18 = .ok (.iload 5, 2) := by decide +kernel
theorem dX10_isNear_20 : decode cX10_isNear 20 = .ok (.iaload, 1) := by decide +kernel
theorem dX10_isNear_21 : decode cX10_isNear 21 = .ok (.isub, 1) := by decide +kernel
theorem dX10_isNear_22 : decode cX10_isNear 22 = .ok (.iload_n 3, 1) := by decide +kernel
theorem dX10_isNear_23 : decode cX10_isNear 23 = .ok (.aload_n 1, 1) := by decide +kernel
theorem dX10_isNear_24 : decode cX10_isNear 24 = .ok (.getfield 34, 3) := by decide +kernel
theorem dX10_isNear_27 : decode cX10_isNear 27 = .ok (.iload 5, 2) := by decide +kernel
theorem dX10_isNear_29 : decode cX10_isNear 29 = .ok (.iaload, 1) := by decide +kernel
theorem dX10_isNear_30 : decode cX10_isNear 30 = .ok (.isub, 1) := by decide +kernel
theorem dX10_isNear_31 : decode cX10_isNear 31 = .ok (.invokevirtual 37, 3) := by decide +kernel
theorem dX10_isNear_34 : decode cX10_isNear 34 = .ok (.iload 4, 2) := by decide +kernel
theorem dX10_isNear_36 : decode cX10_isNear 36 = .ok (.if_icmp .gt 5, 3) := by decide +kernel
theorem dX10_isNear_39 : decode cX10_isNear 39 = .ok (.iconst 1, 1) := by decide +kernel
theorem dX10_isNear_40 : decode cX10_isNear 40 = .ok (.ireturn, 1) := by decide +kernel
theorem dX10_isNear_41 : decode cX10_isNear 41 = .ok (.iinc 5 1, 3) := by decide +kernel
theorem dX10_isNear_44 : decode cX10_isNear 44 = .ok (.goto (-41), 3) := by decide +kernel
theorem dX10_isNear_47 : decode cX10_isNear 47 = .ok (.iconst 0, 1) := by decide +kernel
theorem dX10_isNear_48 : decode cX10_isNear 48 = .ok (.ireturn, 1) := by decide +kernel
theorem dX11_init_0 : decode cX11_init 0 = .ok (.aload_n 0, 1) := by decide +kernel
theorem dX11_init_1 : decode cX11_init 1 = .ok (.invokespecial 1, 3) := by decide +kernel
theorem dX11_init_4 : decode cX11_init 4 = .ok (.aload_n 0, 1) := by decide +kernel
theorem dX11_init_5 : decode cX11_init 5 = .ok (.new 7, 3) := by decide +kernel
theorem dX11_init_8 : decode cX11_init 8 = .ok (.dup, 1) := by decide +kernel
theorem dX11_init_9 : decode cX11_init 9 = .ok (.invokespecial 9, 3) := by decide +kernel
theorem dX11_init_12 : decode cX11_init 12 = .ok (.putfield 10, 3) := by decide +kernel
theorem dX11_init_15 : decode cX11_init 15 = .ok (.aload_n 0, 1) := by decide +kernel
theorem dX11_init_16 : decode cX11_init 16 = .ok (.new 16, 3) := by decide +kernel
theorem dX11_init_19 : decode cX11_init 19 = .ok (.dup, 1) := by decide +kernel
theorem dX11_init_20 : decode cX11_init 20 = .ok (.invokespecial 18, 3) := by decide +kernel
theorem dX11_init_23 : decode cX11_init 23 = .ok (.putfield 19, 3) := by decide +kernel
theorem dX11_init_26 : decode cX11_init 26 = .ok (.aload_n 0, 1) := by decide +kernel
theorem dX11_init_27 : decode cX11_init 27 = .ok (.new 23, 3) := by decide +kernel
theorem dX11_init_30 : decode cX11_init 30 = .ok (.dup, 1) := by decide +kernel
theorem dX11_init_31 : decode cX11_init 31 = .ok (.invokespecial 25, 3) := by decide +kernel
theorem dX11_init_34 : decode cX11_init 34 = .ok (.putfield 26, 3) := by decide +kernel
theorem dX11_init_37 : decode cX11_init 37 = .ok (.aload_n 0, 1) := by decide +kernel
theorem dX11_init_38 : decode cX11_init 38 = .ok (.new 30, 3) := by decide +kernel
theorem dX11_init_41 : decode cX11_init 41 = .ok (.dup, 1) := by decide +kernel
theorem dX11_init_42 : decode cX11_init 42 = .ok (.invokespecial 32, 3) := by decide +kernel
theorem dX11_init_45 : decode cX11_init 45 = .ok (.putfield 33, 3) := by decide +kernel
theorem dX11_init_48 : decode cX11_init 48 = .ok (.aload_n 0, 1) := by decide +kernel
theorem dX11_init_49 : decode cX11_init 49 = .ok (.new 37, 3) := by decide +kernel
theorem dX11_init_52 : decode cX11_init 52 = .ok (.dup, 1) := by decide +kernel
theorem dX11_init_53 : decode cX11_init 53 = .ok (.invokespecial 39, 3) := by decide +kernel
theorem dX11_init_56 : decode cX11_init 56 = .ok (.putfield 40, 3) := by decide +kernel
theorem dX11_init_59 : decode cX11_init 59 = .ok (.aload_n 0, 1) := by decide +kernel
theorem dX11_init_60 : decode cX11_init 60 = .ok (.new 44, 3) := by decide +kernel
theorem dX11_init_63 : decode cX11_init 63 = .ok (.dup, 1) := by decide +kernel
theorem dX11_init_64 : decode cX11_init 64 = .ok (.invokespecial 46, 3) := by decide +kernel
theorem dX11_init_67 : decode cX11_init 67 = .ok (.putfield 47, 3) := by decide +kernel
theorem dX11_init_70 : decode cX11_init 70 = .ok (.aload_n 0, 1) := by decide +kernel
theorem dX11_init_71 : decode cX11_init 71 = .ok (.new 51, 3) := by decide +kernel
theorem dX11_init_74 : decode cX11_init 74 = .ok (.dup, 1) := by decide +kernel
theorem dX11_init_75 : decode cX11_init 75 = .ok (.invokespecial 53, 3) := by decide +kernel
theorem dX11_init_78 : decode cX11_init 78 = .ok (.putfield 54, 3) := by decide +kernel
theorem dX11_init_81 : decode cX11_init 81 = .ok (.aload_n 0, 1) := by decide +kernel
theorem dX11_init_82 : decode cX11_init 82 = .ok (.new 58, 3) := by decide +kernel
theorem dX11_init_85 : decode cX11_init 85 = .ok (.dup, 1) := by decide +kernel
theorem dX11_init_86 : decode cX11_init 86 = .ok (.invokespecial 60, 3) := by decide +kernel
theorem dX11_init_89 : decode cX11_init 89 = .ok (.putfield 61, 3) := by decide +kernel
theorem dX11_init_92 : decode cX11_init 92 = .ok (.aload_n 0, 1) := by decide +kernel
theorem dX11_init_93 : decode cX11_init 93 = .ok (.new 65, 3) := by decide +kernel
theorem dX11_init_96 : decode cX11_init 96 = .ok (.dup, 1) := by decide +kernel
theorem dX11_init_97 : decode cX11_init 97 = .ok (.invokespecial 67, 3) := by decide +kernel
theorem dX11_init_100 : decode cX11_init 100 = .ok (.putfield 68, 3) := by decide +kernel
theorem dX11_init_103 : decode cX11_init 103 = .ok (.aload_n 0, 1) := by decide +kernel
theorem dX11_init_104 : decode cX11_init 104 = .ok (.new 72, 3) := by decide +kernel
theorem dX11_init_107 : decode cX11_init 107 = .ok (.dup, 1) := by decide +kernel
theorem dX11_init_108 : decode cX11_init 108 = .ok (.invokespecial 74, 3) := by decide +kernel
theorem dX11_init_111 : decode cX11_init 111 = .ok (.putfield 75, 3) := by decide +kernel
theorem dX11_init_114 : decode cX11_init 114 = .ok (.aload_n 0, 1) := by decide +kernel
theorem dX11_init_115 : decode cX11_init 115 = .ok (.iconst 2, 1) := by decide +kernel
theorem dX11_init_116 : decode cX11_init 116 = .ok (.putfield 79, 3) := by decide +kernel
theorem dX11_init_119 : decode cX11_init 119 = .ok (.aload_n 0, 1) := by decide +kernel
theorem dX11_init_120 : decode cX11_init 120 = .ok (.iconst 0, 1) := by decide +kernel
theorem dX11_init_121 : decode cX11_init 121 = .ok (.putfield 83, 3) := by decide +kernel
theorem dX11_init_124 : decode cX11_init 124 = .ok (.aload_n 0, 1) := by decide +kernel
theorem dX11_init_125 : decode cX11_init 125 = .ok (.iconst 0, 1) := by decide +kernel
theorem dX11_init_126 : decode cX11_init 126 = .ok (.putfield 86, 3) := by decide +kernel
theorem dX11_init_129 : decode cX11_init 129 = .ok (.aload_n 0, 1) := by decide +kernel
theorem dX11_init_130 : decode cX11_init 130 = .ok (.iconst 1, 1) := by decide +kernel
theorem dX11_init_131 : decode cX11_init 131 = .ok (.putfield 89, 3) := by decide +kernel
theorem dX11_init_134 : decode cX11_init 134 = .ok (.aload_n 0, 1) := by decide +kernel
theorem dX11_init_135 : decode cX11_init 135 = .ok (.iconst 1, 1) := by decide +kernel
theorem dX11_init_136 : decode cX11_init 136 = .ok (.putfield 93, 3) := by decide +kernel
theorem dX11_init_139 : decode cX11_init 139 = .ok (.iconst 0, 1) := by decide +kernel
theorem dX11_init_140 : decode cX11_init 140 = .ok (.istore_n 1, 1) := by decide +kernel
theorem dX11_init_141 : decode cX11_init 141 = .ok (.iload_n 1, 1) := by decide +kernel
theorem dX11_init_142 : decode cX11_init 142 = .ok (.ldc 96, 2) := by decide +kernel
theorem dX11_init_144 : decode cX11_init 144 = .ok (.invokevirtual 98, 3) := by decide +kernel
theorem dX11_init_147 : decode cX11_init 147 = .ok (.if_icmp .ge 23, 3) := by decide +kernel
theorem dX11_init_150 : decode cX11_init 150 = .ok (.aload_n 0, 1) := by decide +kernel
theorem dX11_init_151 : decode cX11_init 151 = .ok (.getfield 10, 3) := by decide +kernel
theorem dX11_init_154 : decode cX11_init 154 = .ok (.ldc 96, 2) := by decide +kernel
theorem dX11_init_156 : decode cX11_init 156 = .ok (.iload_n 1, 1) := by decide +kernel
theorem dX11_init_157 : decode cX11_init 157 = .ok (.invokevirtual 104, 3) := by decide +kernel
theorem dX11_init_160 : decode cX11_init 160 = .ok (.invokevirtual 108, 3) := by decide +kernel
theorem dX11_init_163 : decode cX11_init 163 = .ok (.pop, 1) := by decide +kernel
theorem dX11_init_164 : decode cX11_init 164 = .ok (.iinc 1 1, 3) := by decide +kernel
theorem dX11_init_167 : decode cX11_init 167 = .ok (.goto (-26), 3) := by decide +kernel
theorem dX11_init_170 : decode cX11_init 170 = .ok (.aload_n 0, 1) := by decide +kernel
theorem dX11_init_171 : decode cX11_init 171 = .ok (.getfield 19, 3) := by decide +kernel
theorem dX11_init_174 : decode cX11_init 174 = .ok (.aload_n 0, 1) := by decide +kernel
theorem dX11_init_175 : decode cX11_init 175 = .ok (.getfield 10, 3) := by decide +kernel
theorem dX11_init_178 : decode cX11_init 178 = .ok (.invokevirtual 112, 3) := by decide +kernel
theorem dX11_init_181 : decode cX11_init 181 = .ok (.bipush (-4), 2) := by decide +kernel
theorem dX11_init_183 : decode cX11_init 183 = .ok (.if_icmp .ne 17, 3) := by decide +kernel
theorem dX11_init_186 : decode cX11_init 186 = .ok (.aload_n 0, 1) := by decide +kernel
theorem dX11_init_187 : decode cX11_init 187 = .ok (.getfield 26, 3) := by decide +kernel
theorem dX11_init_190 : decode cX11_init 190 = .ok (.aload_n 0, 1) := by decide +kernel
theorem dX11_init_191 : decode cX11_init 191 = .ok (.getfield 19, 3) := by decide +kernel
theorem dX11_init_194 : decode cX11_init 194 = .ok (.getfield 116, 3) := by decide +kernel
theorem dX11_init_197 : decode cX11_init 197 = .ok (.invokevirtual 117, 3) := by decide +kernel
theorem dX11_init_200 : decode cX11_init 200 = .ok (.aload_n 0, 1) := by decide +kernel
theorem dX11_init_201 : decode cX11_init 201 = .ok (.getfield 10, 3) := by decide +kernel
theorem dX11_init_204 : decode cX11_init 204 = .ok (.iconst 0, 1) := by decide +kernel
theorem dX11_init_205 : decode cX11_init 205 = .ok (.putfield 121, 3) := by decide +kernel
theorem dX11_init_208 : decode cX11_init 208 = .ok (.return_, 1) := by decide +kernel
theorem dX11_write_0 : decode cX11_write 0 = .ok (.iload_n 1, 1) := by decide +kernel
theorem dX11_write_1 : decode cX11_write 1 = .ok (.bipush 32, 2) := by decide +kernel
theorem dX11_write_3 : decode cX11_write 3 = .ok (.if_icmp .lt 9, 3) := by decide +kernel
theorem dX11_write_6 : decode cX11_write 6 = .ok (.iload_n 1, 1) := by decide +kernel
theorem dX11_write_7 : decode cX11_write 7 = .ok (.bipush 126, 2) := by decide +kernel
theorem dX11_write_9 : decode cX11_write 9 = .ok (.if_icmp .le 5, 3) := by decide +kernel
theorem dX11_write_12 : decode cX11_write 12 = .ok (.iconst (-1), 1) := by decide +kernel
theorem dX11_write_13 : decode cX11_write 13 = .ok (.ireturn, 1) := by decide +kernel
theorem dX11_write_14 : decode cX11_write 14 = .ok (.aload_n 0, 1) := by decide +kernel
theorem dX11_write_15 : decode cX11_write 15 = .ok (.getfield 10, 3) := by decide +kernel
theorem dX11_write_18 : decode cX11_write 18 = .ok (.iload_n 1, 1) := by decide +kernel
theorem dX11_write_19 : decode cX11_write 19 = .ok (.i2c, 1) := by decide +kernel
theorem dX11_write_20 : decode cX11_write 20 = .ok (.invokevirtual 108, 3) := by decide +kernel
theorem dX11_write_23 : decode cX11_write 23 = .ok (.ifCond .eq 13, 3) := by decide +kernel
theorem dX11_write_26 : decode cX11_write 26 = .ok (.aload_n 0, 1) := by decide +kernel
theorem dX11_write_27 : decode cX11_write 27 = .ok (.getfield 10, 3) := by decide +kernel
theorem dX11_write_30 : decode cX11_write 30 = .ok (.getfield 121, 3) := by decide +kernel
theorem dX11_write_33 : decode cX11_write 33 = .ok (.goto 5, 3) := by decide +kernel
theorem dX11_write_36 : decode cX11_write 36 = .ok (.bipush (-3), 2) := by decide +kernel
theorem dX11_write_38 : decode cX11_write 38 = .ok (.ireturn, 1) := by decide +kernel
theorem dX11_wipe_0 : decode cX11_wipe 0 = .ok (.aload_n 0, 1) := by decide +kernel
theorem dX11_wipe_1 : decode cX11_wipe 1 = .ok (.getfield 10, 3) := by decide +kernel
theorem dX11_wipe_4 : decode cX11_wipe 4 = .ok (.getfield 121, 3) := by decide +kernel
theorem dX11_wipe_7 : decode cX11_wipe 7 = .ok (.istore_n 1, 1) := by decide +kernel
theorem dX11_wipe_8 : decode cX11_wipe 8 = .ok (.aload_n 0, 1) := by decide +kernel
theorem dX11_wipe_9 : decode cX11_wipe 9 = .ok (.getfield 10, 3) := by decide +kernel
theorem dX11_wipe_12 : decode cX11_wipe 12 = .ok (.iconst 0, 1) := by decide +kernel
theorem dX11_wipe_13 : decode cX11_wipe 13 = .ok (.putfield 121, 3) := by decide +kernel
theorem dX11_wipe_16 : decode cX11_wipe 16 = .ok (.iload_n 1, 1) := by decide +kernel
theorem dX11_wipe_17 : decode cX11_wipe 17 = .ok (.ireturn, 1) := by decide +kernel
theorem dX11_fault_0 : decode cX11_fault 0 = .ok (.aload_n 0, 1) := by decide +kernel
theorem dX11_fault_1 : decode cX11_fault 1 = .ok (.getfield 19, 3) := by decide +kernel
theorem dX11_fault_4 : decode cX11_fault 4 = .ok (.aload_n 0, 1) := by decide +kernel
theorem dX11_fault_5 : decode cX11_fault 5 = .ok (.getfield 10, 3) := by decide +kernel
theorem dX11_fault_8 : decode cX11_fault 8 = .ok (.invokevirtual 112, 3) := by decide +kernel
theorem dX11_fault_11 : decode cX11_fault 11 = .ok (.ireturn, 1) := by decide +kernel
theorem dX11_lay_0 : decode cX11_lay 0 = .ok (.aload_n 0, 1) := by decide +kernel
theorem dX11_lay_1 : decode cX11_lay 1 = .ok (.getfield 19, 3) := by decide +kernel
theorem dX11_lay_4 : decode cX11_lay 4 = .ok (.aload_n 0, 1) := by decide +kernel
theorem dX11_lay_5 : decode cX11_lay 5 = .ok (.getfield 10, 3) := by decide +kernel
theorem dX11_lay_8 : decode cX11_lay 8 = .ok (.invokevirtual 112, 3) := by decide +kernel
theorem dX11_lay_11 : decode cX11_lay 11 = .ok (.bipush (-4), 2) := by decide +kernel
theorem dX11_lay_13 : decode cX11_lay 13 = .ok (.if_icmp .ne 26, 3) := by decide +kernel
theorem dX11_lay_16 : decode cX11_lay 16 = .ok (.aload_n 0, 1) := by decide +kernel
theorem dX11_lay_17 : decode cX11_lay 17 = .ok (.getfield 19, 3) := by decide +kernel
theorem dX11_lay_20 : decode cX11_lay 20 = .ok (.getfield 123, 3) := by decide +kernel
theorem dX11_lay_23 : decode cX11_lay 23 = .ok (.ifCond .eq 16, 3) := by decide +kernel
theorem dX11_lay_26 : decode cX11_lay 26 = .ok (.aload_n 0, 1) := by decide +kernel
theorem dX11_lay_27 : decode cX11_lay 27 = .ok (.getfield 19, 3) := by decide +kernel
theorem dX11_lay_30 : decode cX11_lay 30 = .ok (.getfield 116, 3) := by decide +kernel
theorem dX11_lay_33 : decode cX11_lay 33 = .ok (.getfield 126, 3) := by decide +kernel
theorem dX11_lay_36 : decode cX11_lay 36 = .ok (.ifCond .ne 6, 3) := by decide +kernel
theorem dX11_lay_39 : decode cX11_lay 39 = .ok (.bipush (-2), 2) := by decide +kernel
theorem dX11_lay_41 : decode cX11_lay 41 = .ok (.ireturn, 1) := by decide +kernel
theorem dX11_lay_42 : decode cX11_lay 42 = .ok (.aload_n 0, 1) := by decide +kernel
theorem dX11_lay_43 : decode cX11_lay 43 = .ok (.getfield 26, 3) := by decide +kernel
theorem dX11_lay_46 : decode cX11_lay 46 = .ok (.aload_n 0, 1) := by decide +kernel
theorem dX11_lay_47 : decode cX11_lay 47 = .ok (.getfield 19, 3) := by decide +kernel
theorem dX11_lay_50 : decode cX11_lay 50 = .ok (.getfield 116, 3) := by decide +kernel
theorem dX11_lay_53 : decode cX11_lay 53 = .ok (.invokevirtual 117, 3) := by decide +kernel
theorem dX11_lay_56 : decode cX11_lay 56 = .ok (.aload_n 0, 1) := by decide +kernel
theorem dX11_lay_57 : decode cX11_lay 57 = .ok (.getfield 33, 3) := by decide +kernel
theorem dX11_lay_60 : decode cX11_lay 60 = .ok (.iconst 0, 1) := by decide +kernel
theorem dX11_lay_61 : decode cX11_lay 61 = .ok (.putfield 129, 3) := by decide +kernel
theorem dX11_lay_64 : decode cX11_lay 64 = .ok (.aload_n 0, 1) := by decide +kernel
theorem dX11_lay_65 : decode cX11_lay 65 = .ok (.getfield 40, 3) := by decide +kernel
theorem dX11_lay_68 : decode cX11_lay 68 = .ok (.iconst 0, 1) := by decide +kernel
theorem dX11_lay_69 : decode cX11_lay 69 = .ok (.putfield 132, 3) := by decide +kernel
theorem dX11_lay_72 : decode cX11_lay 72 = .ok (.aload_n 0, 1) := by decide +kernel
theorem dX11_lay_73 : decode cX11_lay 73 = .ok (.iconst 2, 1) := by decide +kernel
theorem dX11_lay_74 : decode cX11_lay 74 = .ok (.iconst 0, 1) := by decide +kernel
theorem dX11_lay_75 : decode cX11_lay 75 = .ok (.iconst 0, 1) := by decide +kernel
theorem dX11_lay_76 : decode cX11_lay 76 = .ok (.invokevirtual 133, 3) := by decide +kernel
theorem dX11_lay_79 : decode cX11_lay 79 = .ok (.aload_n 0, 1) := by decide +kernel
theorem dX11_lay_80 : decode cX11_lay 80 = .ok (.invokevirtual 137, 3) := by decide +kernel
theorem dX11_lay_83 : decode cX11_lay 83 = .ok (.aload_n 0, 1) := by decide +kernel
theorem dX11_lay_84 : decode cX11_lay 84 = .ok (.getfield 26, 3) := by decide +kernel
theorem dX11_lay_87 : decode cX11_lay 87 = .ok (.invokevirtual 140, 3) := by decide +kernel
theorem dX11_lay_90 : decode cX11_lay 90 = .ok (.ireturn, 1) := by decide +kernel
theorem dX11_edge_0 : decode cX11_edge 0 = .ok (.aload_n 0, 1) := by decide +kernel
theorem dX11_edge_1 : decode cX11_edge 1 = .ok (.getfield 26, 3) := by decide +kernel
theorem dX11_edge_4 : decode cX11_edge 4 = .ok (.iload_n 1, 1) := by decide +kernel
theorem dX11_edge_5 : decode cX11_edge 5 = .ok (.iload_n 2, 1) := by decide +kernel
theorem dX11_edge_6 : decode cX11_edge 6 = .ok (.invokevirtual 143, 3) := by decide +kernel
theorem dX11_edge_9 : decode cX11_edge 9 = .ok (.ifCond .eq 12, 3) := by decide +kernel
theorem dX11_edge_12 : decode cX11_edge 12 = .ok (.iconst 0, 1) := by decide +kernel
theorem dX11_edge_13 : decode cX11_edge 13 = .ok (.iload_n 3, 1) := by decide +kernel
theorem dX11_edge_14 : decode cX11_edge 14 = .ok (.iconst 1, 1) := by decide +kernel
theorem dX11_edge_15 : decode cX11_edge 15 = .ok (.invokestatic 147, 3) := by decide +kernel
theorem dX11_edge_18 : decode cX11_edge 18 = .ok (.ifCond .ne 5, 3) := by decide +kernel
theorem dX11_edge_21 : decode cX11_edge 21 = .ok (.iconst (-1), 1) := by decide +kernel
theorem dX11_edge_22 : decode cX11_edge 22 = .ok (.ireturn, 1) := by decide +kernel
theorem dX11_edge_23 : decode cX11_edge 23 = .ok (.aload_n 0, 1) := by decide +kernel
theorem dX11_edge_24 : decode cX11_edge 24 = .ok (.getfield 26, 3) := by decide +kernel
theorem dX11_edge_27 : decode cX11_edge 27 = .ok (.iload_n 1, 1) := by decide +kernel
theorem dX11_edge_28 : decode cX11_edge 28 = .ok (.iload_n 2, 1) := by decide +kernel
theorem dX11_edge_29 : decode cX11_edge 29 = .ok (.invokevirtual 151, 3) := by decide +kernel
theorem dX11_edge_32 : decode cX11_edge 32 = .ok (.iload_n 3, 1) := by decide +kernel
theorem dX11_edge_33 : decode cX11_edge 33 = .ok (.if_icmp .ne 6, 3) := by decide +kernel
theorem dX11_edge_36 : decode cX11_edge 36 = .ok (.bipush (-2), 2) := by decide +kernel
theorem dX11_edge_38 : decode cX11_edge 38 = .ok (.ireturn, 1) := by decide +kernel
theorem dX11_edge_39 : decode cX11_edge 39 = .ok (.aload_n 0, 1) := by decide +kernel
theorem dX11_edge_40 : decode cX11_edge 40 = .ok (.invokevirtual 155, 3) := by decide +kernel
theorem dX11_edge_43 : decode cX11_edge 43 = .ok (.aload_n 0, 1) := by decide +kernel
theorem dX11_edge_44 : decode cX11_edge 44 = .ok (.getfield 26, 3) := by decide +kernel
theorem dX11_edge_47 : decode cX11_edge 47 = .ok (.iload_n 1, 1) := by decide +kernel
theorem dX11_edge_48 : decode cX11_edge 48 = .ok (.iload_n 2, 1) := by decide +kernel
theorem dX11_edge_49 : decode cX11_edge 49 = .ok (.invokevirtual 158, 3) := by decide +kernel
theorem dX11_edge_52 : decode cX11_edge 52 = .ok (.aload_n 0, 1) := by decide +kernel
theorem dX11_edge_53 : decode cX11_edge 53 = .ok (.getfield 26, 3) := by decide +kernel
theorem dX11_edge_56 : decode cX11_edge 56 = .ok (.invokevirtual 140, 3) := by decide +kernel
theorem dX11_edge_59 : decode cX11_edge 59 = .ok (.ireturn, 1) := by decide +kernel
theorem dX11_dot_0 : decode cX11_dot 0 = .ok (.bipush (-5), 2) := by decide +kernel
theorem dX11_dot_2 : decode cX11_dot 2 = .ok (.iload_n 1, 1) := by decide +kernel
theorem dX11_dot_3 : decode cX11_dot 3 = .ok (.iconst 5, 1) := by decide +kernel
theorem dX11_dot_4 : decode cX11_dot 4 = .ok (.invokestatic 147, 3) := by decide +kernel
theorem dX11_dot_7 : decode cX11_dot 7 = .ok (.ifCond .eq 13, 3) := by decide +kernel
theorem dX11_dot_10 : decode cX11_dot 10 = .ok (.bipush (-5), 2) := by decide +kernel
theorem dX11_dot_12 : decode cX11_dot 12 = .ok (.iload_n 2, 1) := by decide +kernel
theorem dX11_dot_13 : decode cX11_dot 13 = .ok (.iconst 5, 1) := by decide +kernel
theorem dX11_dot_14 : decode cX11_dot 14 = .ok (.invokestatic 147, 3) := by decide +kernel
theorem dX11_dot_17 : decode cX11_dot 17 = .ok (.ifCond .ne 5, 3) := by decide +kernel
theorem dX11_dot_20 : decode cX11_dot 20 = .ok (.iconst (-1), 1) := by decide +kernel
theorem dX11_dot_21 : decode cX11_dot 21 = .ok (.ireturn, 1) := by decide +kernel
theorem dX11_dot_22 : decode cX11_dot 22 = .ok (.aload_n 0, 1) := by decide +kernel
theorem dX11_dot_23 : decode cX11_dot 23 = .ok (.getfield 26, 3) := by decide +kernel
theorem dX11_dot_26 : decode cX11_dot 26 = .ok (.iload_n 1, 1) := by decide +kernel
theorem dX11_dot_27 : decode cX11_dot 27 = .ok (.iload_n 2, 1) := by decide +kernel
theorem dX11_dot_28 : decode cX11_dot 28 = .ok (.invokevirtual 162, 3) := by decide +kernel
theorem dX11_dot_31 : decode cX11_dot 31 = .ok (.ifCond .eq 6, 3) := by decide +kernel
theorem dX11_dot_34 : decode cX11_dot 34 = .ok (.bipush (-2), 2) := by decide +kernel
theorem dX11_dot_36 : decode cX11_dot 36 = .ok (.ireturn, 1) := by decide +kernel
theorem dX11_dot_37 : decode cX11_dot 37 = .ok (.aload_n 0, 1) := by decide +kernel
theorem dX11_dot_38 : decode cX11_dot 38 = .ok (.getfield 26, 3) := by decide +kernel
theorem dX11_dot_41 : decode cX11_dot 41 = .ok (.getfield 126, 3) := by decide +kernel
theorem dX11_dot_44 : decode cX11_dot 44 = .ok (.bipush 10, 2) := by decide +kernel
theorem dX11_dot_46 : decode cX11_dot 46 = .ok (.if_icmp .lt 6, 3) := by decide +kernel
theorem dX11_dot_49 : decode cX11_dot 49 = .ok (.bipush (-3), 2) := by decide +kernel
theorem dX11_dot_51 : decode cX11_dot 51 = .ok (.ireturn, 1) := by decide +kernel
theorem dX11_dot_52 : decode cX11_dot 52 = .ok (.aload_n 0, 1) := by decide +kernel
theorem dX11_dot_53 : decode cX11_dot 53 = .ok (.invokevirtual 155, 3) := by decide +kernel
theorem dX11_dot_56 : decode cX11_dot 56 = .ok (.aload_n 0, 1) := by decide +kernel
theorem dX11_dot_57 : decode cX11_dot 57 = .ok (.getfield 26, 3) := by decide +kernel
theorem dX11_dot_60 : decode cX11_dot 60 = .ok (.iload_n 1, 1) := by decide +kernel
theorem dX11_dot_61 : decode cX11_dot 61 = .ok (.iload_n 2, 1) := by decide +kernel
theorem dX11_dot_62 : decode cX11_dot 62 = .ok (.invokevirtual 165, 3) := by decide +kernel
theorem dX11_dot_65 : decode cX11_dot 65 = .ok (.aload_n 0, 1) := by decide +kernel
theorem dX11_dot_66 : decode cX11_dot 66 = .ok (.getfield 26, 3) := by decide +kernel
theorem dX11_dot_69 : decode cX11_dot 69 = .ok (.getfield 126, 3) := by decide +kernel
theorem dX11_dot_72 : decode cX11_dot 72 = .ok (.iconst 1, 1) := by decide +kernel
theorem dX11_dot_73 : decode cX11_dot 73 = .ok (.isub, 1) := by decide +kernel
theorem dX11_dot_74 : decode cX11_dot 74 = .ok (.ireturn, 1) := by decide +kernel
theorem dX11_drop_0 : decode cX11_drop 0 = .ok (.aload_n 0, 1) := by decide +kernel
theorem dX11_drop_1 : decode cX11_drop 1 = .ok (.iload_n 1, 1) := by decide +kernel
theorem dX11_drop_2 : decode cX11_drop 2 = .ok (.invokevirtual 168, 3) := by decide +kernel
theorem dX11_drop_5 : decode cX11_drop 5 = .ok (.ifCond .ne 5, 3) := by decide +kernel
theorem dX11_drop_8 : decode cX11_drop 8 = .ok (.iconst (-1), 1) := by decide +kernel
theorem dX11_drop_9 : decode cX11_drop 9 = .ok (.ireturn, 1) := by decide +kernel
theorem dX11_drop_10 : decode cX11_drop 10 = .ok (.aload_n 0, 1) := by decide +kernel
theorem dX11_drop_11 : decode cX11_drop 11 = .ok (.getfield 26, 3) := by decide +kernel
theorem dX11_drop_14 : decode cX11_drop 14 = .ok (.getfield 126, 3) := by decide +kernel
theorem dX11_drop_17 : decode cX11_drop 17 = .ok (.iconst 1, 1) := by decide +kernel
theorem dX11_drop_18 : decode cX11_drop 18 = .ok (.if_icmp .ne 6, 3) := by decide +kernel
theorem dX11_drop_21 : decode cX11_drop 21 = .ok (.bipush (-2), 2) := by decide +kernel
theorem dX11_drop_23 : decode cX11_drop 23 = .ok (.ireturn, 1) := by decide +kernel
theorem dX11_drop_24 : decode cX11_drop 24 = .ok (.aload_n 0, 1) := by decide +kernel
theorem dX11_drop_25 : decode cX11_drop 25 = .ok (.invokevirtual 155, 3) := by decide +kernel
theorem dX11_drop_28 : decode cX11_drop 28 = .ok (.aload_n 0, 1) := by decide +kernel
theorem dX11_drop_29 : decode cX11_drop 29 = .ok (.getfield 26, 3) := by decide +kernel
theorem dX11_drop_32 : decode cX11_drop 32 = .ok (.iload_n 1, 1) := by decide +kernel
theorem dX11_drop_33 : decode cX11_drop 33 = .ok (.invokevirtual 172, 3) := by decide +kernel
theorem dX11_drop_36 : decode cX11_drop 36 = .ok (.aload_n 0, 1) := by decide +kernel
theorem dX11_drop_37 : decode cX11_drop 37 = .ok (.getfield 26, 3) := by decide +kernel
theorem dX11_drop_40 : decode cX11_drop 40 = .ok (.getfield 126, 3) := by decide +kernel
theorem dX11_drop_43 : decode cX11_drop 43 = .ok (.ireturn, 1) := by decide +kernel
theorem dX11_measure_0 : decode cX11_measure 0 = .ok (.iconst 0, 1) := by decide +kernel
theorem dX11_measure_1 : decode cX11_measure 1 = .ok (.iload_n 1, 1) := by decide +kernel
theorem dX11_measure_2 : decode cX11_measure 2 = .ok (.iconst 2, 1) := by decide +kernel
theorem dX11_measure_3 : decode cX11_measure 3 = .ok (.invokestatic 147, 3) := by decide +kernel
theorem dX11_measure_6 : decode cX11_measure 6 = .ok (.ifCond .eq 13, 3) := by decide +kernel
theorem dX11_measure_9 : decode cX11_measure 9 = .ok (.iconst 1, 1) := by decide +kernel
theorem dX11_measure_10 : decode cX11_measure 10 = .ok (.iload_n 2, 1) := by decide +kernel
theorem dX11_measure_11 : decode cX11_measure 11 = .ok (.bipush 99, 2) := by decide +kernel
theorem dX11_measure_13 : decode cX11_measure 13 = .ok (.invokestatic 147, 3) := by decide +kernel
theorem dX11_measure_16 : decode cX11_measure 16 = .ok (.ifCond .ne 5, 3) := by decide +kernel
theorem dX11_measure_19 : decode cX11_measure 19 = .ok (.iconst (-1), 1) := by decide +kernel
theorem dX11_measure_20 : decode cX11_measure 20 = .ok (.ireturn, 1) := by decide +kernel
theorem dX11_measure_21 : decode cX11_measure 21 = .ok (.aload_n 0, 1) := by decide +kernel
theorem dX11_measure_22 : decode cX11_measure 22 = .ok (.getfield 26, 3) := by decide +kernel
theorem dX11_measure_25 : decode cX11_measure 25 = .ok (.getfield 176, 3) := by decide +kernel
theorem dX11_measure_28 : decode cX11_measure 28 = .ok (.iload_n 1, 1) := by decide +kernel
theorem dX11_measure_29 : decode cX11_measure 29 = .ok (.if_icmp .ne 17, 3) := by decide +kernel
theorem dX11_measure_32 : decode cX11_measure 32 = .ok (.aload_n 0, 1) := by decide +kernel
theorem dX11_measure_33 : decode cX11_measure 33 = .ok (.getfield 26, 3) := by decide +kernel
theorem dX11_measure_36 : decode cX11_measure 36 = .ok (.getfield 179, 3) := by decide +kernel
theorem dX11_measure_39 : decode cX11_measure 39 = .ok (.iload_n 2, 1) := by decide +kernel
theorem dX11_measure_40 : decode cX11_measure 40 = .ok (.if_icmp .ne 6, 3) := by decide +kernel
theorem dX11_measure_43 : decode cX11_measure 43 = .ok (.bipush (-2), 2) := by decide +kernel
theorem dX11_measure_45 : decode cX11_measure 45 = .ok (.ireturn, 1) := by decide +kernel
theorem dX11_measure_46 : decode cX11_measure 46 = .ok (.bipush 100, 2) := by decide +kernel
theorem dX11_measure_48 : decode cX11_measure 48 = .ok (.aload_n 0, 1) := by decide +kernel
theorem dX11_measure_49 : decode cX11_measure 49 = .ok (.getfield 26, 3) := by decide +kernel
theorem dX11_measure_52 : decode cX11_measure 52 = .ok (.getfield 176, 3) := by decide +kernel
theorem dX11_measure_55 : decode cX11_measure 55 = .ok (.imul, 1) := by decide +kernel
theorem dX11_measure_56 : decode cX11_measure 56 = .ok (.aload_n 0, 1) := by decide +kernel
theorem dX11_measure_57 : decode cX11_measure 57 = .ok (.getfield 26, 3) := by decide +kernel
theorem dX11_measure_60 : decode cX11_measure 60 = .ok (.getfield 179, 3) := by decide +kernel
theorem dX11_measure_63 : decode cX11_measure 63 = .ok (.iadd, 1) := by decide +kernel
theorem dX11_measure_64 : decode cX11_measure 64 = .ok (.istore_n 3, 1) := by decide +kernel
theorem dX11_measure_65 : decode cX11_measure 65 = .ok (.aload_n 0, 1) := by decide +kernel
theorem dX11_measure_66 : decode cX11_measure 66 = .ok (.invokevirtual 155, 3) := by decide +kernel
theorem dX11_measure_69 : decode cX11_measure 69 = .ok (.aload_n 0, 1) := by decide +kernel
theorem dX11_measure_70 : decode cX11_measure 70 = .ok (.getfield 26, 3) := by decide +kernel
theorem dX11_measure_73 : decode cX11_measure 73 = .ok (.iload_n 1, 1) := by decide +kernel
theorem dX11_measure_74 : decode cX11_measure 74 = .ok (.putfield 176, 3) := by decide +kernel
theorem dX11_measure_77 : decode cX11_measure 77 = .ok (.aload_n 0, 1) := by decide +kernel
theorem dX11_measure_78 : decode cX11_measure 78 = .ok (.getfield 26, 3) := by decide +kernel
theorem dX11_measure_81 : decode cX11_measure 81 = .ok (.iload_n 2, 1) := by decide +kernel
theorem dX11_measure_82 : decode cX11_measure 82 = .ok (.putfield 179, 3) := by decide +kernel
theorem dX11_measure_85 : decode cX11_measure 85 = .ok (.iload_n 3, 1) := by decide +kernel
theorem dX11_measure_86 : decode cX11_measure 86 = .ok (.ireturn, 1) := by decide +kernel
theorem dX11_undo_0 : decode cX11_undo 0 = .ok (.aload_n 0, 1) := by decide +kernel
theorem dX11_undo_1 : decode cX11_undo 1 = .ok (.getfield 33, 3) := by decide +kernel
theorem dX11_undo_4 : decode cX11_undo 4 = .ok (.getfield 129, 3) := by decide +kernel
theorem dX11_undo_7 : decode cX11_undo 7 = .ok (.ifCond .ne 6, 3) := by decide +kernel
theorem dX11_undo_10 : decode cX11_undo 10 = .ok (.bipush (-2), 2) := by decide +kernel
theorem dX11_undo_12 : decode cX11_undo 12 = .ok (.ireturn, 1) := by decide +kernel
theorem dX11_undo_13 : decode cX11_undo 13 = .ok (.aload_n 0, 1) := by decide +kernel
theorem dX11_undo_14 : decode cX11_undo 14 = .ok (.getfield 33, 3) := by decide +kernel
theorem dX11_undo_17 : decode cX11_undo 17 = .ok (.aload_n 0, 1) := by decide +kernel
theorem dX11_undo_18 : decode cX11_undo 18 = .ok (.getfield 26, 3) := by decide +kernel
theorem dX11_undo_21 : decode cX11_undo 21 = .ok (.aload_n 0, 1) := by decide +kernel
theorem dX11_undo_22 : decode cX11_undo 22 = .ok (.getfield 40, 3) := by decide +kernel
theorem dX11_undo_25 : decode cX11_undo 25 = .ok (.invokevirtual 182, 3) := by decide +kernel
theorem dX11_undo_28 : decode cX11_undo 28 = .ok (.aload_n 0, 1) := by decide +kernel
theorem dX11_undo_29 : decode cX11_undo 29 = .ok (.invokevirtual 137, 3) := by decide +kernel
theorem dX11_undo_32 : decode cX11_undo 32 = .ok (.aload_n 0, 1) := by decide +kernel
theorem dX11_undo_33 : decode cX11_undo 33 = .ok (.getfield 33, 3) := by decide +kernel
theorem dX11_undo_36 : decode cX11_undo 36 = .ok (.getfield 129, 3) := by decide +kernel
theorem dX11_undo_39 : decode cX11_undo 39 = .ok (.ireturn, 1) := by decide +kernel
theorem dX11_cell_0 : decode cX11_cell 0 = .ok (.aload_n 0, 1) := by decide +kernel
theorem dX11_cell_1 : decode cX11_cell 1 = .ok (.getfield 26, 3) := by decide +kernel
theorem dX11_cell_4 : decode cX11_cell 4 = .ok (.iload_n 1, 1) := by decide +kernel
theorem dX11_cell_5 : decode cX11_cell 5 = .ok (.iload_n 2, 1) := by decide +kernel
theorem dX11_cell_6 : decode cX11_cell 6 = .ok (.invokevirtual 143, 3) := by decide +kernel
theorem dX11_cell_9 : decode cX11_cell 9 = .ok (.ifCond .eq 15, 3) := by decide +kernel
theorem dX11_cell_12 : decode cX11_cell 12 = .ok (.aload_n 0, 1) := by decide +kernel
theorem dX11_cell_13 : decode cX11_cell 13 = .ok (.getfield 26, 3) := by decide +kernel
theorem dX11_cell_16 : decode cX11_cell 16 = .ok (.iload_n 1, 1) := by decide +kernel
theorem dX11_cell_17 : decode cX11_cell 17 = .ok (.iload_n 2, 1) := by decide +kernel
theorem dX11_cell_18 : decode cX11_cell 18 = .ok (.invokevirtual 151, 3) := by decide +kernel
theorem dX11_cell_21 : decode cX11_cell 21 = .ok (.goto 4, 3) := by decide +kernel
theorem dX11_cell_24 : decode cX11_cell 24 = .ok (.iconst (-1), 1) := by decide +kernel
theorem dX11_cell_25 : decode cX11_cell 25 = .ok (.ireturn, 1) := by decide +kernel
theorem dX11_far_0 : decode cX11_far 0 = .ok (.aload_n 0, 1) := by decide +kernel
theorem dX11_far_1 : decode cX11_far 1 = .ok (.getfield 26, 3) := by decide +kernel
theorem dX11_far_4 : decode cX11_far 4 = .ok (.iload_n 1, 1) := by decide +kernel
theorem dX11_far_5 : decode cX11_far 5 = .ok (.iload_n 2, 1) := by decide +kernel
theorem dX11_far_6 : decode cX11_far 6 = .ok (.invokevirtual 143, 3) := by decide +kernel
theorem dX11_far_9 : decode cX11_far 9 = .ok (.ifCond .eq 15, 3) := by decide +kernel
theorem dX11_far_12 : decode cX11_far 12 = .ok (.aload_n 0, 1) := by decide +kernel
theorem dX11_far_13 : decode cX11_far 13 = .ok (.invokevirtual 186, 3) := by decide +kernel
theorem dX11_far_16 : decode cX11_far 16 = .ok (.iload_n 1, 1) := by decide +kernel
theorem dX11_far_17 : decode cX11_far 17 = .ok (.iload_n 2, 1) := by decide +kernel
theorem dX11_far_18 : decode cX11_far 18 = .ok (.invokevirtual 190, 3) := by decide +kernel
theorem dX11_far_21 : decode cX11_far 21 = .ok (.goto 4, 3) := by decide +kernel
theorem dX11_far_24 : decode cX11_far 24 = .ok (.iconst (-1), 1) := by decide +kernel
theorem dX11_far_25 : decode cX11_far 25 = .ok (.ireturn, 1) := by decide +kernel
theorem dX11_nearest_0 : decode cX11_nearest 0 = .ok (.aload_n 0, 1) := by decide +kernel
theorem dX11_nearest_1 : decode cX11_nearest 1 = .ok (.getfield 26, 3) := by decide +kernel
theorem dX11_nearest_4 : decode cX11_nearest 4 = .ok (.iload_n 1, 1) := by decide +kernel
theorem dX11_nearest_5 : decode cX11_nearest 5 = .ok (.iload_n 2, 1) := by decide +kernel
theorem dX11_nearest_6 : decode cX11_nearest 6 = .ok (.invokevirtual 143, 3) := by decide +kernel
theorem dX11_nearest_9 : decode cX11_nearest 9 = .ok (.ifCond .ne 5, 3) := by decide +kernel
theorem dX11_nearest_12 : decode cX11_nearest 12 = .ok (.iconst (-1), 1) := by decide +kernel
theorem dX11_nearest_13 : decode cX11_nearest 13 = .ok (.ireturn, 1) := by decide +kernel
theorem dX11_nearest_14 : decode cX11_nearest 14 = .ok (.bipush (-4), 2) := by decide +kernel
theorem dX11_nearest_16 : decode cX11_nearest 16 = .ok (.istore_n 3, 1) := by decide +kernel
theorem dX11_nearest_17 : decode cX11_nearest 17 = .ok (.ldc 193, 2) := by decide +kernel
theorem dX11_nearest_19 : decode cX11_nearest 19 = .ok (.istore 4, 2) := by decide +kernel
theorem dX11_nearest_21 : decode cX11_nearest 21 = .ok (.iconst 0, 1) := by decide +kernel
theorem dX11_nearest_22 : decode cX11_nearest 22 = .ok (.istore 5, 2) := by decide +kernel
theorem dX11_nearest_24 : decode cX11_nearest 24 = .ok (.iload 5, 2) := by decide +kernel
theorem dX11_nearest_26 : decode cX11_nearest 26 = .ok (.aload_n 0, 1) := by decide +kernel
theorem dX11_nearest_27 : decode cX11_nearest 27 = .ok (.getfield 26, 3) := by decide +kernel
theorem dX11_nearest_30 : decode cX11_nearest 30 = .ok (.getfield 194, 3) := by decide +kernel
theorem dX11_nearest_33 : decode cX11_nearest 33 = .ok (.if_icmp .ge 82, 3) := by decide +kernel
theorem dX11_nearest_36 : decode cX11_nearest 36 = .ok (.iconst 0, 1) := by decide +kernel
theorem dX11_nearest_37 : decode cX11_nearest 37 = .ok (.istore 6, 2) := by decide +kernel
theorem dX11_nearest_39 : decode cX11_nearest 39 = .ok (.iload 6, 2) := by decide +kernel
theorem dX11_nearest_41 : decode cX11_nearest 41 = .ok (.aload_n 0, 1) := by decide +kernel
theorem dX11_nearest_42 : decode cX11_nearest 42 = .ok (.getfield 26, 3) := by decide +kernel
theorem dX11_nearest_45 : decode cX11_nearest 45 = .ok (.getfield 197, 3) := by decide +kernel
theorem dX11_nearest_48 : decode cX11_nearest 48 = .ok (.if_icmp .ge 61, 3) := by decide +kernel
theorem dX11_nearest_51 : decode cX11_nearest 51 = .ok (.aload_n 0, 1) := by decide +kernel
theorem dX11_nearest_52 : decode cX11_nearest 52 = .ok (.getfield 26, 3) := by decide +kernel
theorem dX11_nearest_55 : decode cX11_nearest 55 = .ok (.iload 6, 2) := by decide +kernel
theorem dX11_nearest_57 : decode cX11_nearest 57 = .ok (.iload_n 1, 1) := by decide +kernel
theorem dX11_nearest_58 : decode cX11_nearest 58 = .ok (.isub, 1) := by decide +kernel
theorem dX11_nearest_59 : decode cX11_nearest 59 = .ok (.iload 5, 2) := by decide +kernel
theorem dX11_nearest_61 : decode cX11_nearest 61 = .ok (.iload_n 2, 1) := by decide +kernel
theorem dX11_nearest_62 : decode cX11_nearest 62 = .ok (.isub, 1) := by decide +kernel
theorem dX11_nearest_63 : decode cX11_nearest 63 = .ok (.invokevirtual 200, 3) := by decide +kernel
theorem dX11_nearest_66 : decode cX11_nearest 66 = .ok (.istore 7, 2) := by decide +kernel
theorem dX11_nearest_68 : decode cX11_nearest 68 = .ok (.aload_n 0, 1) := by decide +kernel
theorem dX11_nearest_69 : decode cX11_nearest 69 = .ok (.getfield 26, 3) := by decide +kernel
theorem dX11_nearest_72 : decode cX11_nearest 72 = .ok (.iload 6, 2) := by decide +kernel
theorem dX11_nearest_74 : decode cX11_nearest 74 = .ok (.iload 5, 2) := by decide +kernel
theorem dX11_nearest_76 : decode cX11_nearest 76 = .ok (.invokevirtual 151, 3) := by decide +kernel
theorem dX11_nearest_79 : decode cX11_nearest 79 = .ok (.iconst 1, 1) := by decide +kernel
theorem dX11_nearest_80 : decode cX11_nearest 80 = .ok (.if_icmp .ne 23, 3) := by decide +kernel
theorem dX11_nearest_83 : decode cX11_nearest 83 = .ok (.iload 7, 2) := by decide +kernel
theorem dX11_nearest_85 : decode cX11_nearest 85 = .ok (.iload 4, 2) := by decide +kernel
theorem dX11_nearest_87 : decode cX11_nearest 87 = .ok (.if_icmp .ge 16, 3) := by decide +kernel
theorem dX11_nearest_90 : decode cX11_nearest 90 = .ok (.iload 7, 2) := by decide +kernel
theorem dX11_nearest_92 : decode cX11_nearest 92 = .ok (.istore 4, 2) := by decide +kernel
theorem dX11_nearest_94 : decode cX11_nearest 94 = .ok (.bipush 100, 2) := by decide +kernel
theorem dX11_nearest_96 : decode cX11_nearest 96 = .ok (.iload 5, 2) := by decide +kernel
theorem dX11_nearest_98 : decode cX11_nearest 98 = .ok (.imul, 1) := by decide +kernel
theorem dX11_nearest_99 : decode cX11_nearest 99 = .ok (.iload 6, 2) := by decide +kernel
theorem dX11_nearest_101 : decode cX11_nearest 101 = .ok (.iadd, 1) := by decide +kernel
theorem dX11_nearest_102 : decode cX11_nearest 102 = .ok (.istore_n 3, 1) := by decide +kernel
theorem dX11_nearest_103 : decode cX11_nearest 103 = .ok (.iinc 6 1, 3) := by decide +kernel
theorem dX11_nearest_106 : decode cX11_nearest 106 = .ok (.goto (-67), 3) := by decide +kernel
theorem dX11_nearest_109 : decode cX11_nearest 109 = .ok (.iinc 5 1, 3) := by decide +kernel
theorem dX11_nearest_112 : decode cX11_nearest 112 = .ok (.goto (-88), 3) := by decide +kernel
theorem dX11_nearest_115 : decode cX11_nearest 115 = .ok (.iload_n 3, 1) := by decide +kernel
theorem dX11_nearest_116 : decode cX11_nearest 116 = .ok (.ireturn, 1) := by decide +kernel
theorem dX11_rings_0 : decode cX11_rings 0 = .ok (.iconst 0, 1) := by decide +kernel
theorem dX11_rings_1 : decode cX11_rings 1 = .ok (.iload_n 1, 1) := by decide +kernel
theorem dX11_rings_2 : decode cX11_rings 2 = .ok (.bipush 99, 2) := by decide +kernel
theorem dX11_rings_4 : decode cX11_rings 4 = .ok (.invokestatic 147, 3) := by decide +kernel
theorem dX11_rings_7 : decode cX11_rings 7 = .ok (.ifCond .eq 14, 3) := by decide +kernel
theorem dX11_rings_10 : decode cX11_rings 10 = .ok (.aload_n 0, 1) := by decide +kernel
theorem dX11_rings_11 : decode cX11_rings 11 = .ok (.invokevirtual 186, 3) := by decide +kernel
theorem dX11_rings_14 : decode cX11_rings 14 = .ok (.iload_n 1, 1) := by decide +kernel
theorem dX11_rings_15 : decode cX11_rings 15 = .ok (.invokevirtual 203, 3) := by decide +kernel
theorem dX11_rings_18 : decode cX11_rings 18 = .ok (.goto 4, 3) := by decide +kernel
theorem dX11_rings_21 : decode cX11_rings 21 = .ok (.iconst (-1), 1) := by decide +kernel
theorem dX11_rings_22 : decode cX11_rings 22 = .ok (.ireturn, 1) := by decide +kernel
theorem dX11_turn_0 : decode cX11_turn 0 = .ok (.iconst 2, 1) := by decide +kernel
theorem dX11_turn_1 : decode cX11_turn 1 = .ok (.iload_n 1, 1) := by decide +kernel
theorem dX11_turn_2 : decode cX11_turn 2 = .ok (.iconst 4, 1) := by decide +kernel
theorem dX11_turn_3 : decode cX11_turn 3 = .ok (.invokestatic 147, 3) := by decide +kernel
theorem dX11_turn_6 : decode cX11_turn 6 = .ok (.ifCond .eq 21, 3) := by decide +kernel
theorem dX11_turn_9 : decode cX11_turn 9 = .ok (.iconst 0, 1) := by decide +kernel
theorem dX11_turn_10 : decode cX11_turn 10 = .ok (.iload_n 2, 1) := by decide +kernel
theorem dX11_turn_11 : decode cX11_turn 11 = .ok (.iconst 3, 1) := by decide +kernel
theorem dX11_turn_12 : decode cX11_turn 12 = .ok (.invokestatic 147, 3) := by decide +kernel
theorem dX11_turn_15 : decode cX11_turn 15 = .ok (.ifCond .eq 12, 3) := by decide +kernel
theorem dX11_turn_18 : decode cX11_turn 18 = .ok (.iconst 0, 1) := by decide +kernel
theorem dX11_turn_19 : decode cX11_turn 19 = .ok (.iload_n 3, 1) := by decide +kernel
theorem dX11_turn_20 : decode cX11_turn 20 = .ok (.iconst 1, 1) := by decide +kernel
theorem dX11_turn_21 : decode cX11_turn 21 = .ok (.invokestatic 147, 3) := by decide +kernel
theorem dX11_turn_24 : decode cX11_turn 24 = .ok (.ifCond .ne 5, 3) := by decide +kernel
theorem dX11_turn_27 : decode cX11_turn 27 = .ok (.iconst (-1), 1) := by decide +kernel
theorem dX11_turn_28 : decode cX11_turn 28 = .ok (.ireturn, 1) := by decide +kernel
theorem dX11_turn_29 : decode cX11_turn 29 = .ok (.aload_n 0, 1) := by decide +kernel
theorem dX11_turn_30 : decode cX11_turn 30 = .ok (.iload_n 1, 1) := by decide +kernel
theorem dX11_turn_31 : decode cX11_turn 31 = .ok (.iload_n 2, 1) := by decide +kernel
theorem dX11_turn_32 : decode cX11_turn 32 = .ok (.iload_n 3, 1) := by decide +kernel
theorem dX11_turn_33 : decode cX11_turn 33 = .ok (.invokevirtual 133, 3) := by decide +kernel
theorem dX11_turn_36 : decode cX11_turn 36 = .ok (.iconst 0, 1) := by decide +kernel
theorem dX11_turn_37 : decode cX11_turn 37 = .ok (.ireturn, 1) := by decide +kernel
theorem dX11_lies_0 : decode cX11_lies 0 = .ok (.aload_n 0, 1) := by decide +kernel
theorem dX11_lies_1 : decode cX11_lies 1 = .ok (.iload_n 1, 1) := by decide +kernel
theorem dX11_lies_2 : decode cX11_lies 2 = .ok (.invokevirtual 168, 3) := by decide +kernel
theorem dX11_lies_5 : decode cX11_lies 5 = .ok (.ifCond .eq 12, 3) := by decide +kernel
theorem dX11_lies_8 : decode cX11_lies 8 = .ok (.iconst 0, 1) := by decide +kernel
theorem dX11_lies_9 : decode cX11_lies 9 = .ok (.iload_n 2, 1) := by decide +kernel
theorem dX11_lies_10 : decode cX11_lies 10 = .ok (.iconst 1, 1) := by decide +kernel
theorem dX11_lies_11 : decode cX11_lies 11 = .ok (.invokestatic 147, 3) := by decide +kernel
theorem dX11_lies_14 : decode cX11_lies 14 = .ok (.ifCond .ne 5, 3) := by decide +kernel
theorem dX11_lies_17 : decode cX11_lies 17 = .ok (.iconst (-1), 1) := by decide +kernel
theorem dX11_lies_18 : decode cX11_lies 18 = .ok (.ireturn, 1) := by decide +kernel
theorem dX11_lies_19 : decode cX11_lies 19 = .ok (.aload_n 0, 1) := by decide +kernel
theorem dX11_lies_20 : decode cX11_lies 20 = .ok (.invokevirtual 207, 3) := by decide +kernel
theorem dX11_lies_23 : decode cX11_lies 23 = .ok (.astore_n 3, 1) := by decide +kernel
theorem dX11_lies_24 : decode cX11_lies 24 = .ok (.bipush 100, 2) := by decide +kernel
theorem dX11_lies_26 : decode cX11_lies 26 = .ok (.iload_n 2, 1) := by decide +kernel
theorem dX11_lies_27 : decode cX11_lies 27 = .ok (.ifCond .ne 12, 3) := by decide +kernel
theorem dX11_lies_30 : decode cX11_lies 30 = .ok (.aload_n 3, 1) := by decide +kernel
theorem dX11_lies_31 : decode cX11_lies 31 = .ok (.getfield 211, 3) := by decide +kernel
theorem dX11_lies_34 : decode cX11_lies 34 = .ok (.iload_n 1, 1) := by decide +kernel
theorem dX11_lies_35 : decode cX11_lies 35 = .ok (.iaload, 1) := by decide +kernel
theorem dX11_lies_36 : decode cX11_lies 36 = .ok (.goto 9, 3) := by decide +kernel
theorem dX11_lies_39 : decode cX11_lies 39 = .ok (.aload_n 3, 1) := by decide +kernel
theorem dX11_lies_40 : decode cX11_lies 40 = .ok (.getfield 215, 3) := by decide +kernel
theorem dX11_lies_43 : decode cX11_lies 43 = .ok (.iload_n 1, 1) := by decide +kernel
theorem dX11_lies_44 : decode cX11_lies 44 = .ok (.iaload, 1) := by decide +kernel
theorem dX11_lies_45 : decode cX11_lies 45 = .ok (.iadd, 1) := by decide +kernel
theorem dX11_lies_46 : decode cX11_lies 46 = .ok (.ireturn, 1) := by decide +kernel
theorem dX11_pose_0 : decode cX11_pose 0 = .ok (.aload_n 0, 1) := by decide +kernel
theorem dX11_pose_1 : decode cX11_pose 1 = .ok (.getfield 26, 3) := by decide +kernel
theorem dX11_pose_4 : decode cX11_pose 4 = .ok (.iload_n 1, 1) := by decide +kernel
theorem dX11_pose_5 : decode cX11_pose 5 = .ok (.iload_n 2, 1) := by decide +kernel
theorem dX11_pose_6 : decode cX11_pose 6 = .ok (.invokevirtual 143, 3) := by decide +kernel
theorem dX11_pose_9 : decode cX11_pose 9 = .ok (.ifCond .eq 12, 3) := by decide +kernel
theorem dX11_pose_12 : decode cX11_pose 12 = .ok (.iconst 0, 1) := by decide +kernel
theorem dX11_pose_13 : decode cX11_pose 13 = .ok (.iload_n 3, 1) := by decide +kernel
theorem dX11_pose_14 : decode cX11_pose 14 = .ok (.iconst 3, 1) := by decide +kernel
theorem dX11_pose_15 : decode cX11_pose 15 = .ok (.invokestatic 147, 3) := by decide +kernel
theorem dX11_pose_18 : decode cX11_pose 18 = .ok (.ifCond .ne 5, 3) := by decide +kernel
theorem dX11_pose_21 : decode cX11_pose 21 = .ok (.iconst (-1), 1) := by decide +kernel
theorem dX11_pose_22 : decode cX11_pose 22 = .ok (.ireturn, 1) := by decide +kernel
theorem dX11_pose_23 : decode cX11_pose 23 = .ok (.aload_n 0, 1) := by decide +kernel
theorem dX11_pose_24 : decode cX11_pose 24 = .ok (.getfield 68, 3) := by decide +kernel
theorem dX11_pose_27 : decode cX11_pose 27 = .ok (.aload_n 0, 1) := by decide +kernel
theorem dX11_pose_28 : decode cX11_pose 28 = .ok (.invokevirtual 186, 3) := by decide +kernel
theorem dX11_pose_31 : decode cX11_pose 31 = .ok (.aload_n 0, 1) := by decide +kernel
theorem dX11_pose_32 : decode cX11_pose 32 = .ok (.invokevirtual 207, 3) := by decide +kernel
theorem dX11_pose_35 : decode cX11_pose 35 = .ok (.iload_n 1, 1) := by decide +kernel
theorem dX11_pose_36 : decode cX11_pose 36 = .ok (.iload_n 2, 1) := by decide +kernel
theorem dX11_pose_37 : decode cX11_pose 37 = .ok (.invokevirtual 218, 3) := by decide +kernel
theorem dX11_pose_40 : decode cX11_pose 40 = .ok (.ifCond .ne 6, 3) := by decide +kernel
theorem dX11_pose_43 : decode cX11_pose 43 = .ok (.bipush (-4), 2) := by decide +kernel
theorem dX11_pose_45 : decode cX11_pose 45 = .ok (.ireturn, 1) := by decide +kernel
theorem dX11_pose_46 : decode cX11_pose 46 = .ok (.iload_n 3, 1) := by decide +kernel
theorem dX11_pose_47 : decode cX11_pose 47 = .ok (.tableswitch 49 0 2 #[25, 33, 41], 25) := by decide +kernel
theorem dX11_pose_72 : decode cX11_pose 72 = .ok (.aload_n 0, 1) := by decide +kernel
theorem dX11_pose_73 : decode cX11_pose 73 = .ok (.getfield 68, 3) := by decide +kernel
theorem dX11_pose_76 : decode cX11_pose 76 = .ok (.getfield 222, 3) := by decide +kernel
theorem dX11_pose_79 : decode cX11_pose 79 = .ok (.ireturn, 1) := by decide +kernel
theorem dX11_pose_80 : decode cX11_pose 80 = .ok (.aload_n 0, 1) := by decide +kernel
theorem dX11_pose_81 : decode cX11_pose 81 = .ok (.getfield 68, 3) := by decide +kernel
theorem dX11_pose_84 : decode cX11_pose 84 = .ok (.getfield 225, 3) := by decide +kernel
theorem dX11_pose_87 : decode cX11_pose 87 = .ok (.ireturn, 1) := by decide +kernel
theorem dX11_pose_88 : decode cX11_pose 88 = .ok (.aload_n 0, 1) := by decide +kernel
theorem dX11_pose_89 : decode cX11_pose 89 = .ok (.getfield 68, 3) := by decide +kernel
theorem dX11_pose_92 : decode cX11_pose 92 = .ok (.getfield 228, 3) := by decide +kernel
theorem dX11_pose_95 : decode cX11_pose 95 = .ok (.ireturn, 1) := by decide +kernel
theorem dX11_pose_96 : decode cX11_pose 96 = .ok (.aload_n 0, 1) := by decide +kernel
theorem dX11_pose_97 : decode cX11_pose 97 = .ok (.getfield 68, 3) := by decide +kernel
theorem dX11_pose_100 : decode cX11_pose 100 = .ok (.getfield 231, 3) := by decide +kernel
theorem dX11_pose_103 : decode cX11_pose 103 = .ok (.ireturn, 1) := by decide +kernel
theorem dX11_fits_0 : decode cX11_fits 0 = .ok (.aload_n 0, 1) := by decide +kernel
theorem dX11_fits_1 : decode cX11_fits 1 = .ok (.invokevirtual 207, 3) := by decide +kernel
theorem dX11_fits_4 : decode cX11_fits 4 = .ok (.astore_n 1, 1) := by decide +kernel
theorem dX11_fits_5 : decode cX11_fits 5 = .ok (.iconst 0, 1) := by decide +kernel
theorem dX11_fits_6 : decode cX11_fits 6 = .ok (.istore_n 2, 1) := by decide +kernel
theorem dX11_fits_7 : decode cX11_fits 7 = .ok (.iconst 0, 1) := by decide +kernel
theorem dX11_fits_8 : decode cX11_fits 8 = .ok (.istore_n 3, 1) := by decide +kernel
theorem dX11_fits_9 : decode cX11_fits 9 = .ok (.iload_n 3, 1) := by decide +kernel
theorem dX11_fits_10 : decode cX11_fits 10 = .ok (.aload_n 0, 1) := by decide +kernel
theorem dX11_fits_11 : decode cX11_fits 11 = .ok (.getfield 26, 3) := by decide +kernel
theorem dX11_fits_14 : decode cX11_fits 14 = .ok (.getfield 194, 3) := by decide +kernel
theorem dX11_fits_17 : decode cX11_fits 17 = .ok (.if_icmp .ge 57, 3) := by decide +kernel
theorem dX11_fits_20 : decode cX11_fits 20 = .ok (.iconst 0, 1) := by decide +kernel
theorem dX11_fits_21 : decode cX11_fits 21 = .ok (.istore 4, 2) := by decide +kernel
theorem dX11_fits_23 : decode cX11_fits 23 = .ok (.iload 4, 2) := by decide +kernel
theorem dX11_fits_25 : decode cX11_fits 25 = .ok (.aload_n 0, 1) := by decide +kernel
theorem dX11_fits_26 : decode cX11_fits 26 = .ok (.getfield 26, 3) := by decide +kernel
theorem dX11_fits_29 : decode cX11_fits 29 = .ok (.getfield 197, 3) := by decide +kernel
theorem dX11_fits_32 : decode cX11_fits 32 = .ok (.if_icmp .ge 36, 3) := by decide +kernel
theorem dX11_fits_35 : decode cX11_fits 35 = .ok (.aload_n 1, 1) := by decide +kernel
theorem dX11_fits_36 : decode cX11_fits 36 = .ok (.aload_n 0, 1) := by decide +kernel
theorem dX11_fits_37 : decode cX11_fits 37 = .ok (.getfield 26, 3) := by decide +kernel
theorem dX11_fits_40 : decode cX11_fits 40 = .ok (.getfield 197, 3) := by decide +kernel
theorem dX11_fits_43 : decode cX11_fits 43 = .ok (.aload_n 0, 1) := by decide +kernel
theorem dX11_fits_44 : decode cX11_fits 44 = .ok (.getfield 26, 3) := by decide +kernel
theorem dX11_fits_47 : decode cX11_fits 47 = .ok (.getfield 194, 3) := by decide +kernel
theorem dX11_fits_50 : decode cX11_fits 50 = .ok (.iload 4, 2) := by decide +kernel
theorem dX11_fits_52 : decode cX11_fits 52 = .ok (.iload_n 3, 1) := by decide +kernel
theorem dX11_fits_53 : decode cX11_fits 53 = .ok (.invokevirtual 234, 3) := by decide +kernel
theorem dX11_fits_56 : decode cX11_fits 56 = .ok (.ifCond .eq 6, 3) := by decide +kernel
theorem dX11_fits_59 : decode cX11_fits 59 = .ok (.iinc 2 1, 3) := by decide +kernel
theorem dX11_fits_62 : decode cX11_fits 62 = .ok (.iinc 4 1, 3) := by decide +kernel
theorem dX11_fits_65 : decode cX11_fits 65 = .ok (.goto (-42), 3) := by decide +kernel
theorem dX11_fits_68 : decode cX11_fits 68 = .ok (.iinc 3 1, 3) := by decide +kernel
theorem dX11_fits_71 : decode cX11_fits 71 = .ok (.goto (-62), 3) := by decide +kernel
theorem dX11_fits_74 : decode cX11_fits 74 = .ok (.iload_n 2, 1) := by decide +kernel
theorem dX11_fits_75 : decode cX11_fits 75 = .ok (.ireturn, 1) := by decide +kernel
theorem dX11_bound_0 : decode cX11_bound 0 = .ok (.aload_n 0, 1) := by decide +kernel
theorem dX11_bound_1 : decode cX11_bound 1 = .ok (.getfield 26, 3) := by decide +kernel
theorem dX11_bound_4 : decode cX11_bound 4 = .ok (.iload_n 1, 1) := by decide +kernel
theorem dX11_bound_5 : decode cX11_bound 5 = .ok (.iload_n 2, 1) := by decide +kernel
theorem dX11_bound_6 : decode cX11_bound 6 = .ok (.invokevirtual 143, 3) := by decide +kernel
theorem dX11_bound_9 : decode cX11_bound 9 = .ok (.ifCond .eq 13, 3) := by decide +kernel
theorem dX11_bound_12 : decode cX11_bound 12 = .ok (.iconst 1, 1) := by decide +kernel
theorem dX11_bound_13 : decode cX11_bound 13 = .ok (.iload_n 3, 1) := by decide +kernel
theorem dX11_bound_14 : decode cX11_bound 14 = .ok (.bipush 11, 2) := by decide +kernel
theorem dX11_bound_16 : decode cX11_bound 16 = .ok (.invokestatic 147, 3) := by decide +kernel
theorem dX11_bound_19 : decode cX11_bound 19 = .ok (.ifCond .ne 5, 3) := by decide +kernel
theorem dX11_bound_22 : decode cX11_bound 22 = .ok (.iconst (-1), 1) := by decide +kernel
theorem dX11_bound_23 : decode cX11_bound 23 = .ok (.ireturn, 1) := by decide +kernel
theorem dX11_bound_24 : decode cX11_bound 24 = .ok (.aload_n 0, 1) := by decide +kernel
theorem dX11_bound_25 : decode cX11_bound 25 = .ok (.invokevirtual 186, 3) := by decide +kernel
theorem dX11_bound_28 : decode cX11_bound 28 = .ok (.astore 4, 2) := by decide +kernel
theorem dX11_bound_30 : decode cX11_bound 30 = .ok (.aload_n 0, 1) := by decide +kernel
theorem dX11_bound_31 : decode cX11_bound 31 = .ok (.invokevirtual 207, 3) := by decide +kernel
theorem dX11_bound_34 : decode cX11_bound 34 = .ok (.astore 5, 2) := by decide +kernel
theorem dX11_bound_36 : decode cX11_bound 36 = .ok (.iload_n 1, 1) := by decide +kernel
theorem dX11_bound_37 : decode cX11_bound 37 = .ok (.iload_n 3, 1) := by decide +kernel
theorem dX11_bound_38 : decode cX11_bound 38 = .ok (.iadd, 1) := by decide +kernel
theorem dX11_bound_39 : decode cX11_bound 39 = .ok (.aload_n 0, 1) := by decide +kernel
theorem dX11_bound_40 : decode cX11_bound 40 = .ok (.getfield 26, 3) := by decide +kernel
theorem dX11_bound_43 : decode cX11_bound 43 = .ok (.getfield 197, 3) := by decide +kernel
theorem dX11_bound_46 : decode cX11_bound 46 = .ok (.invokestatic 238, 3) := by decide +kernel
theorem dX11_bound_49 : decode cX11_bound 49 = .ok (.iconst 1, 1) := by decide +kernel
theorem dX11_bound_50 : decode cX11_bound 50 = .ok (.isub, 1) := by decide +kernel
theorem dX11_bound_51 : decode cX11_bound 51 = .ok (.istore 6, 2) := by decide +kernel
theorem dX11_bound_53 : decode cX11_bound 53 = .ok (.iload_n 2, 1) := by decide +kernel
theorem dX11_bound_54 : decode cX11_bound 54 = .ok (.iload_n 3, 1) := by decide +kernel
theorem dX11_bound_55 : decode cX11_bound 55 = .ok (.iadd, 1) := by decide +kernel
theorem dX11_bound_56 : decode cX11_bound 56 = .ok (.aload_n 0, 1) := by decide +kernel
theorem dX11_bound_57 : decode cX11_bound 57 = .ok (.getfield 26, 3) := by decide +kernel
theorem dX11_bound_60 : decode cX11_bound 60 = .ok (.getfield 194, 3) := by decide +kernel
theorem dX11_bound_63 : decode cX11_bound 63 = .ok (.invokestatic 238, 3) := by decide +kernel
theorem dX11_bound_66 : decode cX11_bound 66 = .ok (.iconst 1, 1) := by decide +kernel
theorem dX11_bound_67 : decode cX11_bound 67 = .ok (.isub, 1) := by decide +kernel
theorem dX11_bound_68 : decode cX11_bound 68 = .ok (.istore 7, 2) := by decide +kernel
theorem dX11_bound_70 : decode cX11_bound 70 = .ok (.iconst 0, 1) := by decide +kernel
theorem dX11_bound_71 : decode cX11_bound 71 = .ok (.istore 8, 2) := by decide +kernel
theorem dX11_bound_73 : decode cX11_bound 73 = .ok (.iconst 0, 1) := by decide +kernel
theorem dX11_bound_74 : decode cX11_bound 74 = .ok (.istore 9, 2) := by decide +kernel
theorem dX11_bound_76 : decode cX11_bound 76 = .ok (.iload 9, 2) := by decide +kernel
theorem dX11_bound_78 : decode cX11_bound 78 = .ok (.aload 5, 2) := by decide +kernel
theorem dX11_bound_80 : decode cX11_bound 80 = .ok (.getfield 243, 3) := by decide +kernel
theorem dX11_bound_83 : decode cX11_bound 83 = .ok (.if_icmp .ge 71, 3) := by decide +kernel
theorem dX11_bound_86 : decode cX11_bound 86 = .ok (.aload 5, 2) := by decide +kernel
theorem dX11_bound_88 : decode cX11_bound 88 = .ok (.getfield 211, 3) := by decide +kernel
theorem dX11_bound_91 : decode cX11_bound 91 = .ok (.iload 9, 2) := by decide +kernel
theorem dX11_bound_93 : decode cX11_bound 93 = .ok (.iaload, 1) := by decide +kernel
theorem dX11_bound_94 : decode cX11_bound 94 = .ok (.istore 10, 2) := by decide +kernel
theorem dX11_bound_96 : decode cX11_bound 96 = .ok (.aload 5, 2) := by decide +kernel
theorem dX11_bound_98 : decode cX11_bound 98 = .ok (.getfield 215, 3) := by decide +kernel
theorem dX11_bound_101 : decode cX11_bound 101 = .ok (.iload 9, 2) := by decide +kernel
theorem dX11_bound_103 : decode cX11_bound 103 = .ok (.iaload, 1) := by decide +kernel
theorem dX11_bound_104 : decode cX11_bound 104 = .ok (.istore 11, 2) := by decide +kernel
theorem dX11_bound_106 : decode cX11_bound 106 = .ok (.aload 4, 2) := by decide +kernel
theorem dX11_bound_108 : decode cX11_bound 108 = .ok (.iload_n 1, 1) := by decide +kernel
theorem dX11_bound_109 : decode cX11_bound 109 = .ok (.iload 10, 2) := by decide +kernel
theorem dX11_bound_111 : decode cX11_bound 111 = .ok (.iadd, 1) := by decide +kernel
theorem dX11_bound_112 : decode cX11_bound 112 = .ok (.iload_n 2, 1) := by decide +kernel
theorem dX11_bound_113 : decode cX11_bound 113 = .ok (.iload 11, 2) := by decide +kernel
theorem dX11_bound_115 : decode cX11_bound 115 = .ok (.iadd, 1) := by decide +kernel
theorem dX11_bound_116 : decode cX11_bound 116 = .ok (.iload 6, 2) := by decide +kernel
theorem dX11_bound_118 : decode cX11_bound 118 = .ok (.iload 10, 2) := by decide +kernel
theorem dX11_bound_120 : decode cX11_bound 120 = .ok (.iadd, 1) := by decide +kernel
theorem dX11_bound_121 : decode cX11_bound 121 = .ok (.iload 7, 2) := by decide +kernel
theorem dX11_bound_123 : decode cX11_bound 123 = .ok (.iload 11, 2) := by decide +kernel
theorem dX11_bound_125 : decode cX11_bound 125 = .ok (.iadd, 1) := by decide +kernel
theorem dX11_bound_126 : decode cX11_bound 126 = .ok (.invokevirtual 244, 3) := by decide +kernel
theorem dX11_bound_129 : decode cX11_bound 129 = .ok (.istore 12, 2) := by decide +kernel
theorem dX11_bound_131 : decode cX11_bound 131 = .ok (.iload 12, 2) := by decide +kernel
theorem dX11_bound_133 : decode cX11_bound 133 = .ok (.bipush (-4), 2) := by decide +kernel
theorem dX11_bound_135 : decode cX11_bound 135 = .ok (.if_icmp .ne 6, 3) := by decide +kernel
theorem dX11_bound_138 : decode cX11_bound 138 = .ok (.bipush (-4), 2) := by decide +kernel
theorem dX11_bound_140 : decode cX11_bound 140 = .ok (.ireturn, 1) := by decide +kernel
theorem dX11_bound_141 : decode cX11_bound 141 = .ok (.iload 8, 2) := by decide +kernel
theorem dX11_bound_143 : decode cX11_bound 143 = .ok (.iload 12, 2) := by decide +kernel
theorem dX11_bound_145 : decode cX11_bound 145 = .ok (.iadd, 1) := by decide +kernel
theorem dX11_bound_146 : decode cX11_bound 146 = .ok (.istore 8, 2) := by decide +kernel
theorem dX11_bound_148 : decode cX11_bound 148 = .ok (.iinc 9 1, 3) := by decide +kernel
theorem dX11_bound_151 : decode cX11_bound 151 = .ok (.goto (-75), 3) := by decide +kernel
theorem dX11_bound_154 : decode cX11_bound 154 = .ok (.iload 8, 2) := by decide +kernel
theorem dX11_bound_156 : decode cX11_bound 156 = .ok (.ireturn, 1) := by decide +kernel
theorem dX11_tells_0 : decode cX11_tells 0 = .ok (.aload_n 0, 1) := by decide +kernel
theorem dX11_tells_1 : decode cX11_tells 1 = .ok (.getfield 26, 3) := by decide +kernel
theorem dX11_tells_4 : decode cX11_tells 4 = .ok (.iload_n 1, 1) := by decide +kernel
theorem dX11_tells_5 : decode cX11_tells 5 = .ok (.iload_n 2, 1) := by decide +kernel
theorem dX11_tells_6 : decode cX11_tells 6 = .ok (.invokevirtual 143, 3) := by decide +kernel
theorem dX11_tells_9 : decode cX11_tells 9 = .ok (.ifCond .eq 12, 3) := by decide +kernel
theorem dX11_tells_12 : decode cX11_tells 12 = .ok (.iconst 0, 1) := by decide +kernel
theorem dX11_tells_13 : decode cX11_tells 13 = .ok (.iload_n 3, 1) := by decide +kernel
theorem dX11_tells_14 : decode cX11_tells 14 = .ok (.iconst 3, 1) := by decide +kernel
theorem dX11_tells_15 : decode cX11_tells 15 = .ok (.invokestatic 147, 3) := by decide +kernel
theorem dX11_tells_18 : decode cX11_tells 18 = .ok (.ifCond .ne 5, 3) := by decide +kernel
theorem dX11_tells_21 : decode cX11_tells 21 = .ok (.iconst (-1), 1) := by decide +kernel
theorem dX11_tells_22 : decode cX11_tells 22 = .ok (.ireturn, 1) := by decide +kernel
theorem dX11_tells_23 : decode cX11_tells 23 = .ok (.aload_n 0, 1) := by decide +kernel
theorem dX11_tells_24 : decode cX11_tells 24 = .ok (.invokevirtual 207, 3) := by decide +kernel
theorem dX11_tells_27 : decode cX11_tells 27 = .ok (.astore 4, 2) := by decide +kernel
theorem dX11_tells_29 : decode cX11_tells 29 = .ok (.aload 4, 2) := by decide +kernel
theorem dX11_tells_31 : decode cX11_tells 31 = .ok (.aload_n 0, 1) := by decide +kernel
theorem dX11_tells_32 : decode cX11_tells 32 = .ok (.getfield 26, 3) := by decide +kernel
theorem dX11_tells_35 : decode cX11_tells 35 = .ok (.getfield 197, 3) := by decide +kernel
theorem dX11_tells_38 : decode cX11_tells 38 = .ok (.aload_n 0, 1) := by decide +kernel
theorem dX11_tells_39 : decode cX11_tells 39 = .ok (.getfield 26, 3) := by decide +kernel
theorem dX11_tells_42 : decode cX11_tells 42 = .ok (.getfield 194, 3) := by decide +kernel
theorem dX11_tells_45 : decode cX11_tells 45 = .ok (.iload_n 1, 1) := by decide +kernel
theorem dX11_tells_46 : decode cX11_tells 46 = .ok (.iload_n 2, 1) := by decide +kernel
theorem dX11_tells_47 : decode cX11_tells 47 = .ok (.invokevirtual 234, 3) := by decide +kernel
theorem dX11_tells_50 : decode cX11_tells 50 = .ok (.ifCond .ne 6, 3) := by decide +kernel
theorem dX11_tells_53 : decode cX11_tells 53 = .ok (.bipush (-4), 2) := by decide +kernel
theorem dX11_tells_55 : decode cX11_tells 55 = .ok (.ireturn, 1) := by decide +kernel
theorem dX11_tells_56 : decode cX11_tells 56 = .ok (.aload_n 0, 1) := by decide +kernel
theorem dX11_tells_57 : decode cX11_tells 57 = .ok (.getfield 75, 3) := by decide +kernel
theorem dX11_tells_60 : decode cX11_tells 60 = .ok (.aload_n 0, 1) := by decide +kernel
theorem dX11_tells_61 : decode cX11_tells 61 = .ok (.getfield 26, 3) := by decide +kernel
theorem dX11_tells_64 : decode cX11_tells 64 = .ok (.aload 4, 2) := by decide +kernel
theorem dX11_tells_66 : decode cX11_tells 66 = .ok (.iload_n 1, 1) := by decide +kernel
theorem dX11_tells_67 : decode cX11_tells 67 = .ok (.iload_n 2, 1) := by decide +kernel
theorem dX11_tells_68 : decode cX11_tells 68 = .ok (.iload_n 3, 1) := by decide +kernel
theorem dX11_tells_69 : decode cX11_tells 69 = .ok (.invokevirtual 248, 3) := by decide +kernel
theorem dX11_tells_72 : decode cX11_tells 72 = .ok (.ireturn, 1) := by decide +kernel
theorem dX11_best_0 : decode cX11_best 0 = .ok (.iload_n 1, 1) := by decide +kernel
theorem dX11_best_1 : decode cX11_best 1 = .ok (.iconst (-1), 1) := by decide +kernel
theorem dX11_best_2 : decode cX11_best 2 = .ok (.if_icmp .lt 13, 3) := by decide +kernel
theorem dX11_best_5 : decode cX11_best 5 = .ok (.iconst 0, 1) := by decide +kernel
theorem dX11_best_6 : decode cX11_best 6 = .ok (.iload_n 2, 1) := by decide +kernel
theorem dX11_best_7 : decode cX11_best 7 = .ok (.bipush 6, 2) := by decide +kernel
theorem dX11_best_9 : decode cX11_best 9 = .ok (.invokestatic 147, 3) := by decide +kernel
theorem dX11_best_12 : decode cX11_best 12 = .ok (.ifCond .ne 5, 3) := by decide +kernel
theorem dX11_best_15 : decode cX11_best 15 = .ok (.iconst (-1), 1) := by decide +kernel
theorem dX11_best_16 : decode cX11_best 16 = .ok (.ireturn, 1) := by decide +kernel
theorem dX11_best_17 : decode cX11_best 17 = .ok (.aload_n 0, 1) := by decide +kernel
theorem dX11_best_18 : decode cX11_best 18 = .ok (.invokevirtual 252, 3) := by decide +kernel
theorem dX11_best_21 : decode cX11_best 21 = .ok (.astore_n 3, 1) := by decide +kernel
theorem dX11_best_22 : decode cX11_best 22 = .ok (.aload_n 3, 1) := by decide +kernel
theorem dX11_best_23 : decode cX11_best 23 = .ok (.getfield 256, 3) := by decide +kernel
theorem dX11_best_26 : decode cX11_best 26 = .ok (.aload_n 3, 1) := by decide +kernel
theorem dX11_best_27 : decode cX11_best 27 = .ok (.getfield 259, 3) := by decide +kernel
theorem dX11_best_30 : decode cX11_best 30 = .ok (.iload_n 1, 1) := by decide +kernel
theorem dX11_best_31 : decode cX11_best 31 = .ok (.iload_n 2, 1) := by decide +kernel
theorem dX11_best_32 : decode cX11_best 32 = .ok (.invokestatic 262, 3) := by decide +kernel
theorem dX11_best_35 : decode cX11_best 35 = .ok (.ireturn, 1) := by decide +kernel
theorem dX11_spread_0 : decode cX11_spread 0 = .ok (.iconst 1, 1) := by decide +kernel
theorem dX11_spread_1 : decode cX11_spread 1 = .ok (.iload_n 1, 1) := by decide +kernel
theorem dX11_spread_2 : decode cX11_spread 2 = .ok (.bipush 20, 2) := by decide +kernel
theorem dX11_spread_4 : decode cX11_spread 4 = .ok (.invokestatic 147, 3) := by decide +kernel
theorem dX11_spread_7 : decode cX11_spread 7 = .ok (.ifCond .eq 18, 3) := by decide +kernel
theorem dX11_spread_10 : decode cX11_spread 10 = .ok (.iload_n 2, 1) := by decide +kernel
theorem dX11_spread_11 : decode cX11_spread 11 = .ok (.iconst (-1), 1) := by decide +kernel
theorem dX11_spread_12 : decode cX11_spread 12 = .ok (.if_icmp .lt 13, 3) := by decide +kernel
theorem dX11_spread_15 : decode cX11_spread 15 = .ok (.iconst 0, 1) := by decide +kernel
theorem dX11_spread_16 : decode cX11_spread 16 = .ok (.iload_n 3, 1) := by decide +kernel
theorem dX11_spread_17 : decode cX11_spread 17 = .ok (.bipush 6, 2) := by decide +kernel
theorem dX11_spread_19 : decode cX11_spread 19 = .ok (.invokestatic 147, 3) := by decide +kernel
theorem dX11_spread_22 : decode cX11_spread 22 = .ok (.ifCond .ne 5, 3) := by decide +kernel
theorem dX11_spread_25 : decode cX11_spread 25 = .ok (.iconst (-1), 1) := by decide +kernel
theorem dX11_spread_26 : decode cX11_spread 26 = .ok (.ireturn, 1) := by decide +kernel
theorem dX11_spread_27 : decode cX11_spread 27 = .ok (.aload_n 0, 1) := by decide +kernel
theorem dX11_spread_28 : decode cX11_spread 28 = .ok (.invokevirtual 252, 3) := by decide +kernel
theorem dX11_spread_31 : decode cX11_spread 31 = .ok (.astore 4, 2) := by decide +kernel
theorem dX11_spread_33 : decode cX11_spread 33 = .ok (.aload 4, 2) := by decide +kernel
theorem dX11_spread_35 : decode cX11_spread 35 = .ok (.iload_n 1, 1) := by decide +kernel
theorem dX11_spread_36 : decode cX11_spread 36 = .ok (.invokevirtual 266, 3) := by decide +kernel
theorem dX11_spread_39 : decode cX11_spread 39 = .ok (.aload 4, 2) := by decide +kernel
theorem dX11_spread_41 : decode cX11_spread 41 = .ok (.getfield 269, 3) := by decide +kernel
theorem dX11_spread_44 : decode cX11_spread 44 = .ok (.aload 4, 2) := by decide +kernel
theorem dX11_spread_46 : decode cX11_spread 46 = .ok (.getfield 272, 3) := by decide +kernel
theorem dX11_spread_49 : decode cX11_spread 49 = .ok (.iload_n 2, 1) := by decide +kernel
theorem dX11_spread_50 : decode cX11_spread 50 = .ok (.iload_n 3, 1) := by decide +kernel
theorem dX11_spread_51 : decode cX11_spread 51 = .ok (.invokestatic 262, 3) := by decide +kernel
theorem dX11_spread_54 : decode cX11_spread 54 = .ok (.ireturn, 1) := by decide +kernel
theorem dX11_take_0 : decode cX11_take 0 = .ok (.iconst 0, 1) := by decide +kernel
theorem dX11_take_1 : decode cX11_take 1 = .ok (.iload_n 1, 1) := by decide +kernel
theorem dX11_take_2 : decode cX11_take 2 = .ok (.iconst 3, 1) := by decide +kernel
theorem dX11_take_3 : decode cX11_take 3 = .ok (.invokestatic 147, 3) := by decide +kernel
theorem dX11_take_6 : decode cX11_take 6 = .ok (.ifCond .eq 14, 3) := by decide +kernel
theorem dX11_take_9 : decode cX11_take 9 = .ok (.iconst 0, 1) := by decide +kernel
theorem dX11_take_10 : decode cX11_take 10 = .ok (.iload_n 2, 1) := by decide +kernel
theorem dX11_take_11 : decode cX11_take 11 = .ok (.sipush 990, 3) := by decide +kernel
theorem dX11_take_14 : decode cX11_take 14 = .ok (.invokestatic 147, 3) := by decide +kernel
theorem dX11_take_17 : decode cX11_take 17 = .ok (.ifCond .ne 5, 3) := by decide +kernel
theorem dX11_take_20 : decode cX11_take 20 = .ok (.iconst (-1), 1) := by decide +kernel
theorem dX11_take_21 : decode cX11_take 21 = .ok (.ireturn, 1) := by decide +kernel
theorem dX11_take_22 : decode cX11_take 22 = .ok (.aload_n 0, 1) := by decide +kernel
theorem dX11_take_23 : decode cX11_take 23 = .ok (.getfield 40, 3) := by decide +kernel
theorem dX11_take_26 : decode cX11_take 26 = .ok (.getfield 132, 3) := by decide +kernel
theorem dX11_take_29 : decode cX11_take 29 = .ok (.bipush 8, 2) := by decide +kernel
theorem dX11_take_31 : decode cX11_take 31 = .ok (.if_icmp .ge 12, 3) := by decide +kernel
theorem dX11_take_34 : decode cX11_take 34 = .ok (.aload_n 0, 1) := by decide +kernel
theorem dX11_take_35 : decode cX11_take 35 = .ok (.iload_n 1, 1) := by decide +kernel
theorem dX11_take_36 : decode cX11_take 36 = .ok (.iload_n 2, 1) := by decide +kernel
theorem dX11_take_37 : decode cX11_take 37 = .ok (.invokevirtual 275, 3) := by decide +kernel
theorem dX11_take_40 : decode cX11_take 40 = .ok (.goto 5, 3) := by decide +kernel
theorem dX11_take_43 : decode cX11_take 43 = .ok (.bipush (-3), 2) := by decide +kernel
theorem dX11_take_45 : decode cX11_take 45 = .ok (.ireturn, 1) := by decide +kernel
theorem dX11_takes_0 : decode cX11_takes 0 = .ok (.iconst 0, 1) := by decide +kernel
theorem dX11_takes_1 : decode cX11_takes 1 = .ok (.iload_n 1, 1) := by decide +kernel
theorem dX11_takes_2 : decode cX11_takes 2 = .ok (.iconst 3, 1) := by decide +kernel
theorem dX11_takes_3 : decode cX11_takes 3 = .ok (.invokestatic 147, 3) := by decide +kernel
theorem dX11_takes_6 : decode cX11_takes 6 = .ok (.ifCond .eq 14, 3) := by decide +kernel
theorem dX11_takes_9 : decode cX11_takes 9 = .ok (.iconst 0, 1) := by decide +kernel
theorem dX11_takes_10 : decode cX11_takes 10 = .ok (.iload_n 2, 1) := by decide +kernel
theorem dX11_takes_11 : decode cX11_takes 11 = .ok (.sipush 990, 3) := by decide +kernel
theorem dX11_takes_14 : decode cX11_takes 14 = .ok (.invokestatic 147, 3) := by decide +kernel
theorem dX11_takes_17 : decode cX11_takes 17 = .ok (.ifCond .ne 5, 3) := by decide +kernel
theorem dX11_takes_20 : decode cX11_takes 20 = .ok (.iconst (-1), 1) := by decide +kernel
theorem dX11_takes_21 : decode cX11_takes 21 = .ok (.ireturn, 1) := by decide +kernel
theorem dX11_takes_22 : decode cX11_takes 22 = .ok (.iconst 0, 1) := by decide +kernel
theorem dX11_takes_23 : decode cX11_takes 23 = .ok (.istore_n 3, 1) := by decide +kernel
theorem dX11_takes_24 : decode cX11_takes 24 = .ok (.aload_n 0, 1) := by decide +kernel
theorem dX11_takes_25 : decode cX11_takes 25 = .ok (.getfield 40, 3) := by decide +kernel
theorem dX11_takes_28 : decode cX11_takes 28 = .ok (.getfield 132, 3) := by decide +kernel
theorem dX11_takes_31 : decode cX11_takes 31 = .ok (.istore 4, 2) := by decide +kernel
theorem dX11_takes_33 : decode cX11_takes 33 = .ok (.iload 4, 2) := by decide +kernel
theorem dX11_takes_35 : decode cX11_takes 35 = .ok (.bipush 8, 2) := by decide +kernel
theorem dX11_takes_37 : decode cX11_takes 37 = .ok (.if_icmp .ge 25, 3) := by decide +kernel
theorem dX11_takes_40 : decode cX11_takes 40 = .ok (.aload_n 0, 1) := by decide +kernel
