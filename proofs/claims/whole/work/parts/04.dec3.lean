theorem dX11_takes_41 : decode cX11_takes 41 = .ok (.iload_n 1, 1) := by decide +kernel
theorem dX11_takes_42 : decode cX11_takes 42 = .ok (.iload_n 2, 1) := by decide +kernel
theorem dX11_takes_43 : decode cX11_takes 43 = .ok (.invokevirtual 275, 3) := by decide +kernel
theorem dX11_takes_46 : decode cX11_takes 46 = .ok (.bipush (-2), 2) := by decide +kernel
theorem dX11_takes_48 : decode cX11_takes 48 = .ok (.if_icmp .ne 5, 3) := by decide +kernel
theorem dX11_takes_51 : decode cX11_takes 51 = .ok (.iload_n 3, 1) := by decide +kernel
theorem dX11_takes_52 : decode cX11_takes 52 = .ok (.ireturn, 1) := by decide +kernel
theorem dX11_takes_53 : decode cX11_takes 53 = .ok (.iinc 3 1, 3) := by decide +kernel
theorem dX11_takes_56 : decode cX11_takes 56 = .ok (.iinc 4 1, 3) := by decide +kernel
theorem dX11_takes_59 : decode cX11_takes 59 = .ok (.goto (-26), 3) := by decide +kernel
theorem dX11_takes_62 : decode cX11_takes 62 = .ok (.iload_n 3, 1) := by decide +kernel
theorem dX11_takes_63 : decode cX11_takes 63 = .ok (.ireturn, 1) := by decide +kernel
theorem dX11_ledger_0 : decode cX11_ledger 0 = .ok (.iload_n 1, 1) := by decide +kernel
theorem dX11_ledger_1 : decode cX11_ledger 1 = .ok (.iconst (-1), 1) := by decide +kernel
theorem dX11_ledger_2 : decode cX11_ledger 2 = .ok (.if_icmp .lt 13, 3) := by decide +kernel
theorem dX11_ledger_5 : decode cX11_ledger 5 = .ok (.iconst 0, 1) := by decide +kernel
theorem dX11_ledger_6 : decode cX11_ledger 6 = .ok (.iload_n 2, 1) := by decide +kernel
theorem dX11_ledger_7 : decode cX11_ledger 7 = .ok (.bipush 6, 2) := by decide +kernel
theorem dX11_ledger_9 : decode cX11_ledger 9 = .ok (.invokestatic 147, 3) := by decide +kernel
theorem dX11_ledger_12 : decode cX11_ledger 12 = .ok (.ifCond .ne 5, 3) := by decide +kernel
theorem dX11_ledger_15 : decode cX11_ledger 15 = .ok (.iconst (-1), 1) := by decide +kernel
theorem dX11_ledger_16 : decode cX11_ledger 16 = .ok (.ireturn, 1) := by decide +kernel
theorem dX11_ledger_17 : decode cX11_ledger 17 = .ok (.iload_n 1, 1) := by decide +kernel
theorem dX11_ledger_18 : decode cX11_ledger 18 = .ok (.ifCond .lt 30, 3) := by decide +kernel
theorem dX11_ledger_21 : decode cX11_ledger 21 = .ok (.iload_n 1, 1) := by decide +kernel
theorem dX11_ledger_22 : decode cX11_ledger 22 = .ok (.aload_n 0, 1) := by decide +kernel
theorem dX11_ledger_23 : decode cX11_ledger 23 = .ok (.getfield 40, 3) := by decide +kernel
theorem dX11_ledger_26 : decode cX11_ledger 26 = .ok (.getfield 132, 3) := by decide +kernel
theorem dX11_ledger_29 : decode cX11_ledger 29 = .ok (.if_icmp .ge 19, 3) := by decide +kernel
theorem dX11_ledger_32 : decode cX11_ledger 32 = .ok (.iload_n 2, 1) := by decide +kernel
theorem dX11_ledger_33 : decode cX11_ledger 33 = .ok (.bipush 6, 2) := by decide +kernel
theorem dX11_ledger_35 : decode cX11_ledger 35 = .ok (.if_icmp .ne 13, 3) := by decide +kernel
theorem dX11_ledger_38 : decode cX11_ledger 38 = .ok (.aload_n 0, 1) := by decide +kernel
theorem dX11_ledger_39 : decode cX11_ledger 39 = .ok (.getfield 40, 3) := by decide +kernel
theorem dX11_ledger_42 : decode cX11_ledger 42 = .ok (.getfield 278, 3) := by decide +kernel
theorem dX11_ledger_45 : decode cX11_ledger 45 = .ok (.iload_n 1, 1) := by decide +kernel
theorem dX11_ledger_46 : decode cX11_ledger 46 = .ok (.iaload, 1) := by decide +kernel
theorem dX11_ledger_47 : decode cX11_ledger 47 = .ok (.ireturn, 1) := by decide +kernel
theorem dX11_ledger_48 : decode cX11_ledger 48 = .ok (.aload_n 0, 1) := by decide +kernel
theorem dX11_ledger_49 : decode cX11_ledger 49 = .ok (.getfield 40, 3) := by decide +kernel
theorem dX11_ledger_52 : decode cX11_ledger 52 = .ok (.getfield 281, 3) := by decide +kernel
theorem dX11_ledger_55 : decode cX11_ledger 55 = .ok (.aload_n 0, 1) := by decide +kernel
theorem dX11_ledger_56 : decode cX11_ledger 56 = .ok (.getfield 40, 3) := by decide +kernel
theorem dX11_ledger_59 : decode cX11_ledger 59 = .ok (.getfield 132, 3) := by decide +kernel
theorem dX11_ledger_62 : decode cX11_ledger 62 = .ok (.iload_n 1, 1) := by decide +kernel
theorem dX11_ledger_63 : decode cX11_ledger 63 = .ok (.iload_n 2, 1) := by decide +kernel
theorem dX11_ledger_64 : decode cX11_ledger 64 = .ok (.invokestatic 262, 3) := by decide +kernel
theorem dX11_ledger_67 : decode cX11_ledger 67 = .ok (.ireturn, 1) := by decide +kernel
theorem dX11_count_0 : decode cX11_count 0 = .ok (.iload_n 1, 1) := by decide +kernel
theorem dX11_count_1 : decode cX11_count 1 = .ok (.tableswitch 138 0 10 #[59, 67, 75, 83, 91, 99, 107, 115, 123, 128, 133], 59) := by decide +kernel
theorem dX11_count_60 : decode cX11_count 60 = .ok (.aload_n 0, 1) := by decide +kernel
theorem dX11_count_61 : decode cX11_count 61 = .ok (.getfield 26, 3) := by decide +kernel
theorem dX11_count_64 : decode cX11_count 64 = .ok (.getfield 197, 3) := by decide +kernel
theorem dX11_count_67 : decode cX11_count 67 = .ok (.ireturn, 1) := by decide +kernel
theorem dX11_count_68 : decode cX11_count 68 = .ok (.aload_n 0, 1) := by decide +kernel
theorem dX11_count_69 : decode cX11_count 69 = .ok (.getfield 26, 3) := by decide +kernel
theorem dX11_count_72 : decode cX11_count 72 = .ok (.getfield 194, 3) := by decide +kernel
theorem dX11_count_75 : decode cX11_count 75 = .ok (.ireturn, 1) := by decide +kernel
theorem dX11_count_76 : decode cX11_count 76 = .ok (.aload_n 0, 1) := by decide +kernel
theorem dX11_count_77 : decode cX11_count 77 = .ok (.getfield 26, 3) := by decide +kernel
theorem dX11_count_80 : decode cX11_count 80 = .ok (.invokevirtual 140, 3) := by decide +kernel
theorem dX11_count_83 : decode cX11_count 83 = .ok (.ireturn, 1) := by decide +kernel
theorem dX11_count_84 : decode cX11_count 84 = .ok (.aload_n 0, 1) := by decide +kernel
theorem dX11_count_85 : decode cX11_count 85 = .ok (.getfield 26, 3) := by decide +kernel
theorem dX11_count_88 : decode cX11_count 88 = .ok (.getfield 126, 3) := by decide +kernel
theorem dX11_count_91 : decode cX11_count 91 = .ok (.ireturn, 1) := by decide +kernel
theorem dX11_count_92 : decode cX11_count 92 = .ok (.aload_n 0, 1) := by decide +kernel
theorem dX11_count_93 : decode cX11_count 93 = .ok (.getfield 26, 3) := by decide +kernel
theorem dX11_count_96 : decode cX11_count 96 = .ok (.getfield 176, 3) := by decide +kernel
theorem dX11_count_99 : decode cX11_count 99 = .ok (.ireturn, 1) := by decide +kernel
theorem dX11_count_100 : decode cX11_count 100 = .ok (.aload_n 0, 1) := by decide +kernel
theorem dX11_count_101 : decode cX11_count 101 = .ok (.getfield 26, 3) := by decide +kernel
theorem dX11_count_104 : decode cX11_count 104 = .ok (.getfield 179, 3) := by decide +kernel
theorem dX11_count_107 : decode cX11_count 107 = .ok (.ireturn, 1) := by decide +kernel
theorem dX11_count_108 : decode cX11_count 108 = .ok (.aload_n 0, 1) := by decide +kernel
theorem dX11_count_109 : decode cX11_count 109 = .ok (.getfield 33, 3) := by decide +kernel
theorem dX11_count_112 : decode cX11_count 112 = .ok (.getfield 129, 3) := by decide +kernel
theorem dX11_count_115 : decode cX11_count 115 = .ok (.ireturn, 1) := by decide +kernel
theorem dX11_count_116 : decode cX11_count 116 = .ok (.aload_n 0, 1) := by decide +kernel
theorem dX11_count_117 : decode cX11_count 117 = .ok (.getfield 10, 3) := by decide +kernel
theorem dX11_count_120 : decode cX11_count 120 = .ok (.getfield 121, 3) := by decide +kernel
theorem dX11_count_123 : decode cX11_count 123 = .ok (.ireturn, 1) := by decide +kernel
theorem dX11_count_124 : decode cX11_count 124 = .ok (.aload_n 0, 1) := by decide +kernel
theorem dX11_count_125 : decode cX11_count 125 = .ok (.getfield 79, 3) := by decide +kernel
theorem dX11_count_128 : decode cX11_count 128 = .ok (.ireturn, 1) := by decide +kernel
theorem dX11_count_129 : decode cX11_count 129 = .ok (.aload_n 0, 1) := by decide +kernel
theorem dX11_count_130 : decode cX11_count 130 = .ok (.getfield 83, 3) := by decide +kernel
theorem dX11_count_133 : decode cX11_count 133 = .ok (.ireturn, 1) := by decide +kernel
theorem dX11_count_134 : decode cX11_count 134 = .ok (.aload_n 0, 1) := by decide +kernel
theorem dX11_count_135 : decode cX11_count 135 = .ok (.getfield 86, 3) := by decide +kernel
theorem dX11_count_138 : decode cX11_count 138 = .ok (.ireturn, 1) := by decide +kernel
theorem dX11_count_139 : decode cX11_count 139 = .ok (.iconst (-1), 1) := by decide +kernel
theorem dX11_count_140 : decode cX11_count 140 = .ok (.ireturn, 1) := by decide +kernel
theorem dX11_isFrom_0 : decode cX11_isFrom 0 = .ok (.iload_n 1, 1) := by decide +kernel
theorem dX11_isFrom_1 : decode cX11_isFrom 1 = .ok (.iload_n 0, 1) := by decide +kernel
theorem dX11_isFrom_2 : decode cX11_isFrom 2 = .ok (.if_icmp .lt 12, 3) := by decide +kernel
theorem dX11_isFrom_5 : decode cX11_isFrom 5 = .ok (.iload_n 1, 1) := by decide +kernel
theorem dX11_isFrom_6 : decode cX11_isFrom 6 = .ok (.iload_n 2, 1) := by decide +kernel
theorem dX11_isFrom_7 : decode cX11_isFrom 7 = .ok (.if_icmp .gt 7, 3) := by decide +kernel
theorem dX11_isFrom_10 : decode cX11_isFrom 10 = .ok (.iconst 1, 1) := by decide +kernel
theorem dX11_isFrom_11 : decode cX11_isFrom 11 = .ok (.goto 4, 3) := by decide +kernel
theorem dX11_isFrom_14 : decode cX11_isFrom 14 = .ok (.iconst 0, 1) := by decide +kernel
theorem dX11_isFrom_15 : decode cX11_isFrom 15 = .ok (.ireturn, 1) := by decide +kernel
theorem dX11_isDot_0 : decode cX11_isDot 0 = .ok (.iload_n 1, 1) := by decide +kernel
theorem dX11_isDot_1 : decode cX11_isDot 1 = .ok (.ifCond .lt 18, 3) := by decide +kernel
theorem dX11_isDot_4 : decode cX11_isDot 4 = .ok (.iload_n 1, 1) := by decide +kernel
theorem dX11_isDot_5 : decode cX11_isDot 5 = .ok (.aload_n 0, 1) := by decide +kernel
theorem dX11_isDot_6 : decode cX11_isDot 6 = .ok (.getfield 26, 3) := by decide +kernel
theorem dX11_isDot_9 : decode cX11_isDot 9 = .ok (.getfield 126, 3) := by decide +kernel
theorem dX11_isDot_12 : decode cX11_isDot 12 = .ok (.if_icmp .ge 7, 3) := by decide +kernel
theorem dX11_isDot_15 : decode cX11_isDot 15 = .ok (.iconst 1, 1) := by decide +kernel
theorem dX11_isDot_16 : decode cX11_isDot 16 = .ok (.goto 4, 3) := by decide +kernel
theorem dX11_isDot_19 : decode cX11_isDot 19 = .ok (.iconst 0, 1) := by decide +kernel
theorem dX11_isDot_20 : decode cX11_isDot 20 = .ok (.ireturn, 1) := by decide +kernel
theorem dX11_lookAt_0 : decode cX11_lookAt 0 = .ok (.aload_n 0, 1) := by decide +kernel
theorem dX11_lookAt_1 : decode cX11_lookAt 1 = .ok (.iload_n 1, 1) := by decide +kernel
theorem dX11_lookAt_2 : decode cX11_lookAt 2 = .ok (.putfield 79, 3) := by decide +kernel
theorem dX11_lookAt_5 : decode cX11_lookAt 5 = .ok (.aload_n 0, 1) := by decide +kernel
theorem dX11_lookAt_6 : decode cX11_lookAt 6 = .ok (.iload_n 2, 1) := by decide +kernel
theorem dX11_lookAt_7 : decode cX11_lookAt 7 = .ok (.putfield 83, 3) := by decide +kernel
theorem dX11_lookAt_10 : decode cX11_lookAt 10 = .ok (.aload_n 0, 1) := by decide +kernel
theorem dX11_lookAt_11 : decode cX11_lookAt 11 = .ok (.iload_n 3, 1) := by decide +kernel
theorem dX11_lookAt_12 : decode cX11_lookAt 12 = .ok (.putfield 86, 3) := by decide +kernel
theorem dX11_lookAt_15 : decode cX11_lookAt 15 = .ok (.return_, 1) := by decide +kernel
theorem dX11_lookedAt_0 : decode cX11_lookedAt 0 = .ok (.aload_n 0, 1) := by decide +kernel
theorem dX11_lookedAt_1 : decode cX11_lookedAt 1 = .ok (.getfield 61, 3) := by decide +kernel
theorem dX11_lookedAt_4 : decode cX11_lookedAt 4 = .ok (.aload_n 0, 1) := by decide +kernel
theorem dX11_lookedAt_5 : decode cX11_lookedAt 5 = .ok (.getfield 26, 3) := by decide +kernel
theorem dX11_lookedAt_8 : decode cX11_lookedAt 8 = .ok (.aload_n 0, 1) := by decide +kernel
theorem dX11_lookedAt_9 : decode cX11_lookedAt 9 = .ok (.getfield 79, 3) := by decide +kernel
theorem dX11_lookedAt_12 : decode cX11_lookedAt 12 = .ok (.aload_n 0, 1) := by decide +kernel
theorem dX11_lookedAt_13 : decode cX11_lookedAt 13 = .ok (.getfield 83, 3) := by decide +kernel
theorem dX11_lookedAt_16 : decode cX11_lookedAt 16 = .ok (.aload_n 0, 1) := by decide +kernel
theorem dX11_lookedAt_17 : decode cX11_lookedAt 17 = .ok (.getfield 86, 3) := by decide +kernel
theorem dX11_lookedAt_20 : decode cX11_lookedAt 20 = .ok (.invokevirtual 284, 3) := by decide +kernel
theorem dX11_lookedAt_23 : decode cX11_lookedAt 23 = .ok (.aload_n 0, 1) := by decide +kernel
theorem dX11_lookedAt_24 : decode cX11_lookedAt 24 = .ok (.getfield 61, 3) := by decide +kernel
theorem dX11_lookedAt_27 : decode cX11_lookedAt 27 = .ok (.areturn, 1) := by decide +kernel
theorem dX11_startChange_0 : decode cX11_startChange 0 = .ok (.aload_n 0, 1) := by decide +kernel
theorem dX11_startChange_1 : decode cX11_startChange 1 = .ok (.getfield 33, 3) := by decide +kernel
theorem dX11_startChange_4 : decode cX11_startChange 4 = .ok (.aload_n 0, 1) := by decide +kernel
theorem dX11_startChange_5 : decode cX11_startChange 5 = .ok (.getfield 26, 3) := by decide +kernel
theorem dX11_startChange_8 : decode cX11_startChange 8 = .ok (.aload_n 0, 1) := by decide +kernel
theorem dX11_startChange_9 : decode cX11_startChange 9 = .ok (.getfield 40, 3) := by decide +kernel
theorem dX11_startChange_12 : decode cX11_startChange 12 = .ok (.getfield 132, 3) := by decide +kernel
theorem dX11_startChange_15 : decode cX11_startChange 15 = .ok (.invokevirtual 288, 3) := by decide +kernel
theorem dX11_startChange_18 : decode cX11_startChange 18 = .ok (.aload_n 0, 1) := by decide +kernel
theorem dX11_startChange_19 : decode cX11_startChange 19 = .ok (.invokevirtual 137, 3) := by decide +kernel
theorem dX11_startChange_22 : decode cX11_startChange 22 = .ok (.return_, 1) := by decide +kernel
theorem dX11_makeStale_0 : decode cX11_makeStale 0 = .ok (.aload_n 0, 1) := by decide +kernel
theorem dX11_makeStale_1 : decode cX11_makeStale 1 = .ok (.iconst 1, 1) := by decide +kernel
theorem dX11_makeStale_2 : decode cX11_makeStale 2 = .ok (.putfield 89, 3) := by decide +kernel
theorem dX11_makeStale_5 : decode cX11_makeStale 5 = .ok (.aload_n 0, 1) := by decide +kernel
theorem dX11_makeStale_6 : decode cX11_makeStale 6 = .ok (.iconst 1, 1) := by decide +kernel
theorem dX11_makeStale_7 : decode cX11_makeStale 7 = .ok (.putfield 93, 3) := by decide +kernel
theorem dX11_makeStale_10 : decode cX11_makeStale 10 = .ok (.return_, 1) := by decide +kernel
theorem dX11_freshField_0 : decode cX11_freshField 0 = .ok (.aload_n 0, 1) := by decide +kernel
theorem dX11_freshField_1 : decode cX11_freshField 1 = .ok (.getfield 89, 3) := by decide +kernel
theorem dX11_freshField_4 : decode cX11_freshField 4 = .ok (.ifCond .eq 19, 3) := by decide +kernel
theorem dX11_freshField_7 : decode cX11_freshField 7 = .ok (.aload_n 0, 1) := by decide +kernel
theorem dX11_freshField_8 : decode cX11_freshField 8 = .ok (.getfield 47, 3) := by decide +kernel
theorem dX11_freshField_11 : decode cX11_freshField 11 = .ok (.aload_n 0, 1) := by decide +kernel
theorem dX11_freshField_12 : decode cX11_freshField 12 = .ok (.getfield 26, 3) := by decide +kernel
theorem dX11_freshField_15 : decode cX11_freshField 15 = .ok (.invokevirtual 292, 3) := by decide +kernel
theorem dX11_freshField_18 : decode cX11_freshField 18 = .ok (.aload_n 0, 1) := by decide +kernel
theorem dX11_freshField_19 : decode cX11_freshField 19 = .ok (.iconst 0, 1) := by decide +kernel
theorem dX11_freshField_20 : decode cX11_freshField 20 = .ok (.putfield 89, 3) := by decide +kernel
theorem dX11_freshField_23 : decode cX11_freshField 23 = .ok (.aload_n 0, 1) := by decide +kernel
theorem dX11_freshField_24 : decode cX11_freshField 24 = .ok (.getfield 47, 3) := by decide +kernel
theorem dX11_freshField_27 : decode cX11_freshField 27 = .ok (.areturn, 1) := by decide +kernel
theorem dX11_freshRanking_0 : decode cX11_freshRanking 0 = .ok (.aload_n 0, 1) := by decide +kernel
theorem dX11_freshRanking_1 : decode cX11_freshRanking 1 = .ok (.getfield 93, 3) := by decide +kernel
theorem dX11_freshRanking_4 : decode cX11_freshRanking 4 = .ok (.ifCond .eq 23, 3) := by decide +kernel
theorem dX11_freshRanking_7 : decode cX11_freshRanking 7 = .ok (.aload_n 0, 1) := by decide +kernel
theorem dX11_freshRanking_8 : decode cX11_freshRanking 8 = .ok (.getfield 54, 3) := by decide +kernel
theorem dX11_freshRanking_11 : decode cX11_freshRanking 11 = .ok (.aload_n 0, 1) := by decide +kernel
theorem dX11_freshRanking_12 : decode cX11_freshRanking 12 = .ok (.getfield 26, 3) := by decide +kernel
theorem dX11_freshRanking_15 : decode cX11_freshRanking 15 = .ok (.aload_n 0, 1) := by decide +kernel
theorem dX11_freshRanking_16 : decode cX11_freshRanking 16 = .ok (.invokevirtual 186, 3) := by decide +kernel
theorem dX11_freshRanking_19 : decode cX11_freshRanking 19 = .ok (.invokevirtual 295, 3) := by decide +kernel
theorem dX11_freshRanking_22 : decode cX11_freshRanking 22 = .ok (.aload_n 0, 1) := by decide +kernel
theorem dX11_freshRanking_23 : decode cX11_freshRanking 23 = .ok (.iconst 0, 1) := by decide +kernel
theorem dX11_freshRanking_24 : decode cX11_freshRanking 24 = .ok (.putfield 93, 3) := by decide +kernel
theorem dX11_freshRanking_27 : decode cX11_freshRanking 27 = .ok (.aload_n 0, 1) := by decide +kernel
theorem dX11_freshRanking_28 : decode cX11_freshRanking 28 = .ok (.getfield 54, 3) := by decide +kernel
theorem dX11_freshRanking_31 : decode cX11_freshRanking 31 = .ok (.areturn, 1) := by decide +kernel
theorem dX11_partOf_0 : decode cX11_partOf 0 = .ok (.iload_n 2, 1) := by decide +kernel
theorem dX11_partOf_1 : decode cX11_partOf 1 = .ok (.iconst (-1), 1) := by decide +kernel
theorem dX11_partOf_2 : decode cX11_partOf 2 = .ok (.if_icmp .ne 5, 3) := by decide +kernel
theorem dX11_partOf_5 : decode cX11_partOf 5 = .ok (.iload_n 1, 1) := by decide +kernel
theorem dX11_partOf_6 : decode cX11_partOf 6 = .ok (.ireturn, 1) := by decide +kernel
theorem dX11_partOf_7 : decode cX11_partOf 7 = .ok (.iload_n 2, 1) := by decide +kernel
theorem dX11_partOf_8 : decode cX11_partOf 8 = .ok (.ifCond .lt 24, 3) := by decide +kernel
theorem dX11_partOf_11 : decode cX11_partOf 11 = .ok (.iload_n 2, 1) := by decide +kernel
theorem dX11_partOf_12 : decode cX11_partOf 12 = .ok (.iload_n 1, 1) := by decide +kernel
theorem dX11_partOf_13 : decode cX11_partOf 13 = .ok (.if_icmp .ge 19, 3) := by decide +kernel
theorem dX11_partOf_16 : decode cX11_partOf 16 = .ok (.iload_n 2, 1) := by decide +kernel
theorem dX11_partOf_17 : decode cX11_partOf 17 = .ok (.aload_n 0, 1) := by decide +kernel
theorem dX11_partOf_18 : decode cX11_partOf 18 = .ok (.arraylength, 1) := by decide +kernel
theorem dX11_partOf_19 : decode cX11_partOf 19 = .ok (.if_icmp .ge 13, 3) := by decide +kernel
theorem dX11_partOf_22 : decode cX11_partOf 22 = .ok (.aload_n 0, 1) := by decide +kernel
theorem dX11_partOf_23 : decode cX11_partOf 23 = .ok (.iload_n 2, 1) := by decide +kernel
theorem dX11_partOf_24 : decode cX11_partOf 24 = .ok (.iaload, 1) := by decide +kernel
theorem dX11_partOf_25 : decode cX11_partOf 25 = .ok (.iload_n 3, 1) := by decide +kernel
theorem dX11_partOf_26 : decode cX11_partOf 26 = .ok (.invokestatic 298, 3) := by decide +kernel
theorem dX11_partOf_29 : decode cX11_partOf 29 = .ok (.goto 5, 3) := by decide +kernel
theorem dX11_partOf_32 : decode cX11_partOf 32 = .ok (.bipush (-4), 2) := by decide +kernel
theorem dX11_partOf_34 : decode cX11_partOf 34 = .ok (.ireturn, 1) := by decide +kernel
theorem dX11_takeFirst_0 : decode cX11_takeFirst 0 = .ok (.aload_n 0, 1) := by decide +kernel
theorem dX11_takeFirst_1 : decode cX11_takeFirst 1 = .ok (.invokevirtual 252, 3) := by decide +kernel
theorem dX11_takeFirst_4 : decode cX11_takeFirst 4 = .ok (.astore_n 3, 1) := by decide +kernel
theorem dX11_takeFirst_5 : decode cX11_takeFirst 5 = .ok (.aload_n 3, 1) := by decide +kernel
theorem dX11_takeFirst_6 : decode cX11_takeFirst 6 = .ok (.getfield 259, 3) := by decide +kernel
theorem dX11_takeFirst_9 : decode cX11_takeFirst 9 = .ok (.ifCond .ne 6, 3) := by decide +kernel
theorem dX11_takeFirst_12 : decode cX11_takeFirst 12 = .ok (.bipush (-2), 2) := by decide +kernel
theorem dX11_takeFirst_14 : decode cX11_takeFirst 14 = .ok (.ireturn, 1) := by decide +kernel
theorem dX11_takeFirst_15 : decode cX11_takeFirst 15 = .ok (.aload_n 3, 1) := by decide +kernel
theorem dX11_takeFirst_16 : decode cX11_takeFirst 16 = .ok (.getfield 256, 3) := by decide +kernel
theorem dX11_takeFirst_19 : decode cX11_takeFirst 19 = .ok (.iconst 0, 1) := by decide +kernel
theorem dX11_takeFirst_20 : decode cX11_takeFirst 20 = .ok (.iaload, 1) := by decide +kernel
theorem dX11_takeFirst_21 : decode cX11_takeFirst 21 = .ok (.istore 4, 2) := by decide +kernel
theorem dX11_takeFirst_23 : decode cX11_takeFirst 23 = .ok (.iload 4, 2) := by decide +kernel
theorem dX11_takeFirst_25 : decode cX11_takeFirst 25 = .ok (.iconst 5, 1) := by decide +kernel
theorem dX11_takeFirst_26 : decode cX11_takeFirst 26 = .ok (.invokestatic 298, 3) := by decide +kernel
theorem dX11_takeFirst_29 : decode cX11_takeFirst 29 = .ok (.iload_n 2, 1) := by decide +kernel
theorem dX11_takeFirst_30 : decode cX11_takeFirst 30 = .ok (.if_icmp .le 6, 3) := by decide +kernel
theorem dX11_takeFirst_33 : decode cX11_takeFirst 33 = .ok (.bipush (-2), 2) := by decide +kernel
theorem dX11_takeFirst_35 : decode cX11_takeFirst 35 = .ok (.ireturn, 1) := by decide +kernel
theorem dX11_takeFirst_36 : decode cX11_takeFirst 36 = .ok (.aload_n 0, 1) := by decide +kernel
theorem dX11_takeFirst_37 : decode cX11_takeFirst 37 = .ok (.getfield 61, 3) := by decide +kernel
theorem dX11_takeFirst_40 : decode cX11_takeFirst 40 = .ok (.aload_n 0, 1) := by decide +kernel
theorem dX11_takeFirst_41 : decode cX11_takeFirst 41 = .ok (.getfield 26, 3) := by decide +kernel
theorem dX11_takeFirst_44 : decode cX11_takeFirst 44 = .ok (.iload 4, 2) := by decide +kernel
theorem dX11_takeFirst_46 : decode cX11_takeFirst 46 = .ok (.iconst 2, 1) := by decide +kernel
theorem dX11_takeFirst_47 : decode cX11_takeFirst 47 = .ok (.invokestatic 298, 3) := by decide +kernel
theorem dX11_takeFirst_50 : decode cX11_takeFirst 50 = .ok (.iload 4, 2) := by decide +kernel
theorem dX11_takeFirst_52 : decode cX11_takeFirst 52 = .ok (.iconst 3, 1) := by decide +kernel
theorem dX11_takeFirst_53 : decode cX11_takeFirst 53 = .ok (.invokestatic 298, 3) := by decide +kernel
theorem dX11_takeFirst_56 : decode cX11_takeFirst 56 = .ok (.iload 4, 2) := by decide +kernel
theorem dX11_takeFirst_58 : decode cX11_takeFirst 58 = .ok (.iconst 4, 1) := by decide +kernel
theorem dX11_takeFirst_59 : decode cX11_takeFirst 59 = .ok (.invokestatic 298, 3) := by decide +kernel
theorem dX11_takeFirst_62 : decode cX11_takeFirst 62 = .ok (.invokevirtual 284, 3) := by decide +kernel
theorem dX11_takeFirst_65 : decode cX11_takeFirst 65 = .ok (.aload_n 0, 1) := by decide +kernel
theorem dX11_takeFirst_66 : decode cX11_takeFirst 66 = .ok (.getfield 75, 3) := by decide +kernel
theorem dX11_takeFirst_69 : decode cX11_takeFirst 69 = .ok (.aload_n 0, 1) := by decide +kernel
theorem dX11_takeFirst_70 : decode cX11_takeFirst 70 = .ok (.getfield 26, 3) := by decide +kernel
theorem dX11_takeFirst_73 : decode cX11_takeFirst 73 = .ok (.aload_n 0, 1) := by decide +kernel
theorem dX11_takeFirst_74 : decode cX11_takeFirst 74 = .ok (.getfield 61, 3) := by decide +kernel
theorem dX11_takeFirst_77 : decode cX11_takeFirst 77 = .ok (.iload 4, 2) := by decide +kernel
theorem dX11_takeFirst_79 : decode cX11_takeFirst 79 = .ok (.iconst 0, 1) := by decide +kernel
theorem dX11_takeFirst_80 : decode cX11_takeFirst 80 = .ok (.invokestatic 298, 3) := by decide +kernel
theorem dX11_takeFirst_83 : decode cX11_takeFirst 83 = .ok (.iload 4, 2) := by decide +kernel
theorem dX11_takeFirst_85 : decode cX11_takeFirst 85 = .ok (.iconst 1, 1) := by decide +kernel
theorem dX11_takeFirst_86 : decode cX11_takeFirst 86 = .ok (.invokestatic 298, 3) := by decide +kernel
theorem dX11_takeFirst_89 : decode cX11_takeFirst 89 = .ok (.iload_n 1, 1) := by decide +kernel
theorem dX11_takeFirst_90 : decode cX11_takeFirst 90 = .ok (.invokevirtual 248, 3) := by decide +kernel
theorem dX11_takeFirst_93 : decode cX11_takeFirst 93 = .ok (.istore 5, 2) := by decide +kernel
theorem dX11_takeFirst_95 : decode cX11_takeFirst 95 = .ok (.iload 5, 2) := by decide +kernel
theorem dX11_takeFirst_97 : decode cX11_takeFirst 97 = .ok (.ifCond .ne 6, 3) := by decide +kernel
theorem dX11_takeFirst_100 : decode cX11_takeFirst 100 = .ok (.bipush (-2), 2) := by decide +kernel
theorem dX11_takeFirst_102 : decode cX11_takeFirst 102 = .ok (.ireturn, 1) := by decide +kernel
theorem dX11_takeFirst_103 : decode cX11_takeFirst 103 = .ok (.aload_n 0, 1) := by decide +kernel
theorem dX11_takeFirst_104 : decode cX11_takeFirst 104 = .ok (.invokevirtual 155, 3) := by decide +kernel
theorem dX11_takeFirst_107 : decode cX11_takeFirst 107 = .ok (.aload_n 0, 1) := by decide +kernel
theorem dX11_takeFirst_108 : decode cX11_takeFirst 108 = .ok (.getfield 26, 3) := by decide +kernel
theorem dX11_takeFirst_111 : decode cX11_takeFirst 111 = .ok (.aload_n 0, 1) := by decide +kernel
theorem dX11_takeFirst_112 : decode cX11_takeFirst 112 = .ok (.getfield 75, 3) := by decide +kernel
theorem dX11_takeFirst_115 : decode cX11_takeFirst 115 = .ok (.getfield 303, 3) := by decide +kernel
theorem dX11_takeFirst_118 : decode cX11_takeFirst 118 = .ok (.invokevirtual 306, 3) := by decide +kernel
theorem dX11_takeFirst_121 : decode cX11_takeFirst 121 = .ok (.aload_n 0, 1) := by decide +kernel
theorem dX11_takeFirst_122 : decode cX11_takeFirst 122 = .ok (.getfield 40, 3) := by decide +kernel
theorem dX11_takeFirst_125 : decode cX11_takeFirst 125 = .ok (.iload 4, 2) := by decide +kernel
theorem dX11_takeFirst_127 : decode cX11_takeFirst 127 = .ok (.iload 5, 2) := by decide +kernel
theorem dX11_takeFirst_129 : decode cX11_takeFirst 129 = .ok (.invokevirtual 310, 3) := by decide +kernel
theorem dX11_takeFirst_132 : decode cX11_takeFirst 132 = .ok (.iload 5, 2) := by decide +kernel
theorem dX11_takeFirst_134 : decode cX11_takeFirst 134 = .ok (.ireturn, 1) := by decide +kernel
theorem dX12_in_0 : decode cX12_in 0 = .ok (.iload_n 0, 1) := by decide +kernel
theorem dX12_in_1 : decode cX12_in 1 = .ok (.iload_n 1, 1) := by decide +kernel
theorem dX12_in_2 : decode cX12_in 2 = .ok (.if_icmp .lt 12, 3) := by decide +kernel
theorem dX12_in_5 : decode cX12_in 5 = .ok (.iload_n 0, 1) := by decide +kernel
theorem dX12_in_6 : decode cX12_in 6 = .ok (.iload_n 2, 1) := by decide +kernel
theorem dX12_in_7 : decode cX12_in 7 = .ok (.if_icmp .gt 7, 3) := by decide +kernel
theorem dX12_in_10 : decode cX12_in 10 = .ok (.iconst 1, 1) := by decide +kernel
theorem dX12_in_11 : decode cX12_in 11 = .ok (.goto 4, 3) := by decide +kernel
theorem dX12_in_14 : decode cX12_in 14 = .ok (.iconst 0, 1) := by decide +kernel
theorem dX12_in_15 : decode cX12_in 15 = .ok (.ireturn, 1) := by decide +kernel
theorem dX12_init_0 : decode cX12_init 0 = .ok (.aload_n 0, 1) := by decide +kernel
theorem dX12_init_1 : decode cX12_init 1 = .ok (.invokespecial 1, 3) := by decide +kernel
theorem dX12_init_4 : decode cX12_init 4 = .ok (.aload_n 0, 1) := by decide +kernel
theorem dX12_init_5 : decode cX12_init 5 = .ok (.sipush 145, 3) := by decide +kernel
theorem dX12_init_8 : decode cX12_init 8 = .ok (.newarray .int, 2) := by decide +kernel
theorem dX12_init_10 : decode cX12_init 10 = .ok (.putfield 7, 3) := by decide +kernel
theorem dX12_init_13 : decode cX12_init 13 = .ok (.aload_n 0, 1) := by decide +kernel
theorem dX12_init_14 : decode cX12_init 14 = .ok (.sipush 870, 3) := by decide +kernel
theorem dX12_init_17 : decode cX12_init 17 = .ok (.newarray .int, 2) := by decide +kernel
theorem dX12_init_19 : decode cX12_init 19 = .ok (.putfield 13, 3) := by decide +kernel
theorem dX12_init_22 : decode cX12_init 22 = .ok (.aload_n 0, 1) := by decide +kernel
theorem dX12_init_23 : decode cX12_init 23 = .ok (.bipush 56, 2) := by decide +kernel
theorem dX12_init_25 : decode cX12_init 25 = .ok (.newarray .int, 2) := by decide +kernel
theorem dX12_init_27 : decode cX12_init 27 = .ok (.putfield 16, 3) := by decide +kernel
theorem dX12_init_30 : decode cX12_init 30 = .ok (.aload_n 0, 1) := by decide +kernel
theorem dX12_init_31 : decode cX12_init 31 = .ok (.iconst 2, 1) := by decide +kernel
theorem dX12_init_32 : decode cX12_init 32 = .ok (.putfield 19, 3) := by decide +kernel
theorem dX12_init_35 : decode cX12_init 35 = .ok (.aload_n 0, 1) := by decide +kernel
theorem dX12_init_36 : decode cX12_init 36 = .ok (.sipush 200, 3) := by decide +kernel
theorem dX12_init_39 : decode cX12_init 39 = .ok (.newarray .int, 2) := by decide +kernel
theorem dX12_init_41 : decode cX12_init 41 = .ok (.putfield 23, 3) := by decide +kernel
theorem dX12_init_44 : decode cX12_init 44 = .ok (.aload_n 0, 1) := by decide +kernel
theorem dX12_init_45 : decode cX12_init 45 = .ok (.sipush 145, 3) := by decide +kernel
theorem dX12_init_48 : decode cX12_init 48 = .ok (.newarray .int, 2) := by decide +kernel
theorem dX12_init_50 : decode cX12_init 50 = .ok (.putfield 26, 3) := by decide +kernel
theorem dX12_init_53 : decode cX12_init 53 = .ok (.aload_n 0, 1) := by decide +kernel
theorem dX12_init_54 : decode cX12_init 54 = .ok (.bipush 10, 2) := by decide +kernel
theorem dX12_init_56 : decode cX12_init 56 = .ok (.newarray .int, 2) := by decide +kernel
theorem dX12_init_58 : decode cX12_init 58 = .ok (.dup, 1) := by decide +kernel
theorem dX12_init_59 : decode cX12_init 59 = .ok (.iconst 0, 1) := by decide +kernel
theorem dX12_init_60 : decode cX12_init 60 = .ok (.iconst 0, 1) := by decide +kernel
theorem dX12_init_61 : decode cX12_init 61 = .ok (.iastore, 1) := by decide +kernel
theorem dX12_init_62 : decode cX12_init 62 = .ok (.dup, 1) := by decide +kernel
theorem dX12_init_63 : decode cX12_init 63 = .ok (.iconst 1, 1) := by decide +kernel
theorem dX12_init_64 : decode cX12_init 64 = .ok (.bipush 60, 2) := by decide +kernel
theorem dX12_init_66 : decode cX12_init 66 = .ok (.iastore, 1) := by decide +kernel
theorem dX12_init_67 : decode cX12_init 67 = .ok (.dup, 1) := by decide +kernel
theorem dX12_init_68 : decode cX12_init 68 = .ok (.iconst 2, 1) := by decide +kernel
theorem dX12_init_69 : decode cX12_init 69 = .ok (.iconst 4, 1) := by decide +kernel
theorem dX12_init_70 : decode cX12_init 70 = .ok (.iastore, 1) := by decide +kernel
theorem dX12_init_71 : decode cX12_init 71 = .ok (.dup, 1) := by decide +kernel
theorem dX12_init_72 : decode cX12_init 72 = .ok (.iconst 3, 1) := by decide +kernel
theorem dX12_init_73 : decode cX12_init 73 = .ok (.sipush 132, 3) := by decide +kernel
theorem dX12_init_76 : decode cX12_init 76 = .ok (.iastore, 1) := by decide +kernel
theorem dX12_init_77 : decode cX12_init 77 = .ok (.dup, 1) := by decide +kernel
theorem dX12_init_78 : decode cX12_init 78 = .ok (.iconst 4, 1) := by decide +kernel
theorem dX12_init_79 : decode cX12_init 79 = .ok (.sipush 128, 3) := by decide +kernel
theorem dX12_init_82 : decode cX12_init 82 = .ok (.iastore, 1) := by decide +kernel
theorem dX12_init_83 : decode cX12_init 83 = .ok (.dup, 1) := by decide +kernel
theorem dX12_init_84 : decode cX12_init 84 = .ok (.iconst 5, 1) := by decide +kernel
theorem dX12_init_85 : decode cX12_init 85 = .ok (.sipush 240, 3) := by decide +kernel
theorem dX12_init_88 : decode cX12_init 88 = .ok (.iastore, 1) := by decide +kernel
theorem dX12_init_89 : decode cX12_init 89 = .ok (.dup, 1) := by decide +kernel
theorem dX12_init_90 : decode cX12_init 90 = .ok (.bipush 6, 2) := by decide +kernel
theorem dX12_init_92 : decode cX12_init 92 = .ok (.iconst 0, 1) := by decide +kernel
theorem dX12_init_93 : decode cX12_init 93 = .ok (.iastore, 1) := by decide +kernel
theorem dX12_init_94 : decode cX12_init 94 = .ok (.dup, 1) := by decide +kernel
theorem dX12_init_95 : decode cX12_init 95 = .ok (.bipush 7, 2) := by decide +kernel
theorem dX12_init_97 : decode cX12_init 97 = .ok (.iconst 2, 1) := by decide +kernel
theorem dX12_init_98 : decode cX12_init 98 = .ok (.iastore, 1) := by decide +kernel
theorem dX12_init_99 : decode cX12_init 99 = .ok (.dup, 1) := by decide +kernel
theorem dX12_init_100 : decode cX12_init 100 = .ok (.bipush 8, 2) := by decide +kernel
theorem dX12_init_102 : decode cX12_init 102 = .ok (.iconst 2, 1) := by decide +kernel
theorem dX12_init_103 : decode cX12_init 103 = .ok (.iastore, 1) := by decide +kernel
theorem dX12_init_104 : decode cX12_init 104 = .ok (.dup, 1) := by decide +kernel
theorem dX12_init_105 : decode cX12_init 105 = .ok (.bipush 9, 2) := by decide +kernel
theorem dX12_init_107 : decode cX12_init 107 = .ok (.bipush 30, 2) := by decide +kernel
theorem dX12_init_109 : decode cX12_init 109 = .ok (.iastore, 1) := by decide +kernel
theorem dX12_init_110 : decode cX12_init 110 = .ok (.putfield 29, 3) := by decide +kernel
theorem dX12_init_113 : decode cX12_init 113 = .ok (.aload_n 0, 1) := by decide +kernel
theorem dX12_init_114 : decode cX12_init 114 = .ok (.bipush 12, 2) := by decide +kernel
theorem dX12_init_116 : decode cX12_init 116 = .ok (.newarray .int, 2) := by decide +kernel
theorem dX12_init_118 : decode cX12_init 118 = .ok (.dup, 1) := by decide +kernel
theorem dX12_init_119 : decode cX12_init 119 = .ok (.iconst 0, 1) := by decide +kernel
theorem dX12_init_120 : decode cX12_init 120 = .ok (.iconst 0, 1) := by decide +kernel
theorem dX12_init_121 : decode cX12_init 121 = .ok (.iastore, 1) := by decide +kernel
theorem dX12_init_122 : decode cX12_init 122 = .ok (.dup, 1) := by decide +kernel
theorem dX12_init_123 : decode cX12_init 123 = .ok (.iconst 1, 1) := by decide +kernel
theorem dX12_init_124 : decode cX12_init 124 = .ok (.iconst 0, 1) := by decide +kernel
theorem dX12_init_125 : decode cX12_init 125 = .ok (.iastore, 1) := by decide +kernel
theorem dX12_init_126 : decode cX12_init 126 = .ok (.dup, 1) := by decide +kernel
theorem dX12_init_127 : decode cX12_init 127 = .ok (.iconst 2, 1) := by decide +kernel
theorem dX12_init_128 : decode cX12_init 128 = .ok (.iconst 1, 1) := by decide +kernel
theorem dX12_init_129 : decode cX12_init 129 = .ok (.iastore, 1) := by decide +kernel
theorem dX12_init_130 : decode cX12_init 130 = .ok (.dup, 1) := by decide +kernel
theorem dX12_init_131 : decode cX12_init 131 = .ok (.iconst 3, 1) := by decide +kernel
theorem dX12_init_132 : decode cX12_init 132 = .ok (.iconst 0, 1) := by decide +kernel
theorem dX12_init_133 : decode cX12_init 133 = .ok (.iastore, 1) := by decide +kernel
theorem dX12_init_134 : decode cX12_init 134 = .ok (.dup, 1) := by decide +kernel
theorem dX12_init_135 : decode cX12_init 135 = .ok (.iconst 4, 1) := by decide +kernel
theorem dX12_init_136 : decode cX12_init 136 = .ok (.iconst 2, 1) := by decide +kernel
theorem dX12_init_137 : decode cX12_init 137 = .ok (.iastore, 1) := by decide +kernel
theorem dX12_init_138 : decode cX12_init 138 = .ok (.dup, 1) := by decide +kernel
theorem dX12_init_139 : decode cX12_init 139 = .ok (.iconst 5, 1) := by decide +kernel
theorem dX12_init_140 : decode cX12_init 140 = .ok (.iconst 0, 1) := by decide +kernel
theorem dX12_init_141 : decode cX12_init 141 = .ok (.iastore, 1) := by decide +kernel
theorem dX12_init_142 : decode cX12_init 142 = .ok (.dup, 1) := by decide +kernel
theorem dX12_init_143 : decode cX12_init 143 = .ok (.bipush 6, 2) := by decide +kernel
theorem dX12_init_145 : decode cX12_init 145 = .ok (.iconst 3, 1) := by decide +kernel
theorem dX12_init_146 : decode cX12_init 146 = .ok (.iastore, 1) := by decide +kernel
theorem dX12_init_147 : decode cX12_init 147 = .ok (.dup, 1) := by decide +kernel
theorem dX12_init_148 : decode cX12_init 148 = .ok (.bipush 7, 2) := by decide +kernel
theorem dX12_init_150 : decode cX12_init 150 = .ok (.iconst 0, 1) := by decide +kernel
theorem dX12_init_151 : decode cX12_init 151 = .ok (.iastore, 1) := by decide +kernel
theorem dX12_init_152 : decode cX12_init 152 = .ok (.dup, 1) := by decide +kernel
theorem dX12_init_153 : decode cX12_init 153 = .ok (.bipush 8, 2) := by decide +kernel
theorem dX12_init_155 : decode cX12_init 155 = .ok (.iconst 0, 1) := by decide +kernel
theorem dX12_init_156 : decode cX12_init 156 = .ok (.iastore, 1) := by decide +kernel
theorem dX12_init_157 : decode cX12_init 157 = .ok (.dup, 1) := by decide +kernel
theorem dX12_init_158 : decode cX12_init 158 = .ok (.bipush 9, 2) := by decide +kernel
theorem dX12_init_160 : decode cX12_init 160 = .ok (.iconst (-1), 1) := by decide +kernel
theorem dX12_init_161 : decode cX12_init 161 = .ok (.iastore, 1) := by decide +kernel
theorem dX12_init_162 : decode cX12_init 162 = .ok (.dup, 1) := by decide +kernel
theorem dX12_init_163 : decode cX12_init 163 = .ok (.bipush 10, 2) := by decide +kernel
theorem dX12_init_165 : decode cX12_init 165 = .ok (.iconst 0, 1) := by decide +kernel
theorem dX12_init_166 : decode cX12_init 166 = .ok (.iastore, 1) := by decide +kernel
theorem dX12_init_167 : decode cX12_init 167 = .ok (.dup, 1) := by decide +kernel
theorem dX12_init_168 : decode cX12_init 168 = .ok (.bipush 11, 2) := by decide +kernel
theorem dX12_init_170 : decode cX12_init 170 = .ok (.bipush (-2), 2) := by decide +kernel
theorem dX12_init_172 : decode cX12_init 172 = .ok (.iastore, 1) := by decide +kernel
theorem dX12_init_173 : decode cX12_init 173 = .ok (.putfield 32, 3) := by decide +kernel
theorem dX12_init_176 : decode cX12_init 176 = .ok (.aload_n 0, 1) := by decide +kernel
theorem dX12_init_177 : decode cX12_init 177 = .ok (.bipush 121, 2) := by decide +kernel
theorem dX12_init_179 : decode cX12_init 179 = .ok (.newarray .int, 2) := by decide +kernel
theorem dX12_init_181 : decode cX12_init 181 = .ok (.putfield 35, 3) := by decide +kernel
theorem dX12_init_184 : decode cX12_init 184 = .ok (.aload_n 0, 1) := by decide +kernel
theorem dX12_init_185 : decode cX12_init 185 = .ok (.sipush 2904, 3) := by decide +kernel
theorem dX12_init_188 : decode cX12_init 188 = .ok (.newarray .int, 2) := by decide +kernel
theorem dX12_init_190 : decode cX12_init 190 = .ok (.putfield 38, 3) := by decide +kernel
theorem dX12_init_193 : decode cX12_init 193 = .ok (.aload_n 0, 1) := by decide +kernel
theorem dX12_init_194 : decode cX12_init 194 = .ok (.bipush 10, 2) := by decide +kernel
theorem dX12_init_196 : decode cX12_init 196 = .ok (.newarray .int, 2) := by decide +kernel
theorem dX12_init_198 : decode cX12_init 198 = .ok (.putfield 41, 3) := by decide +kernel
theorem dX12_init_201 : decode cX12_init 201 = .ok (.aload_n 0, 1) := by decide +kernel
theorem dX12_init_202 : decode cX12_init 202 = .ok (.bipush 10, 2) := by decide +kernel
theorem dX12_init_204 : decode cX12_init 204 = .ok (.putfield 44, 3) := by decide +kernel
theorem dX12_init_207 : decode cX12_init 207 = .ok (.aload_n 0, 1) := by decide +kernel
theorem dX12_init_208 : decode cX12_init 208 = .ok (.bipush 10, 2) := by decide +kernel
theorem dX12_init_210 : decode cX12_init 210 = .ok (.putfield 47, 3) := by decide +kernel
theorem dX12_init_213 : decode cX12_init 213 = .ok (.iconst 0, 1) := by decide +kernel
theorem dX12_init_214 : decode cX12_init 214 = .ok (.istore_n 1, 1) := by decide +kernel
theorem dX12_init_215 : decode cX12_init 215 = .ok (.iload_n 1, 1) := by decide +kernel
theorem dX12_init_216 : decode cX12_init 216 = .ok (.bipush 100, 2) := by decide +kernel
theorem dX12_init_218 : decode cX12_init 218 = .ok (.if_icmp .ge 41, 3) := by decide +kernel
theorem dX12_init_221 : decode cX12_init 221 = .ok (.aload_n 0, 1) := by decide +kernel
theorem dX12_init_222 : decode cX12_init 222 = .ok (.getfield 7, 3) := by decide +kernel
theorem dX12_init_225 : decode cX12_init 225 = .ok (.iload_n 1, 1) := by decide +kernel
theorem dX12_init_226 : decode cX12_init 226 = .ok (.bipush 10, 2) := by decide +kernel
theorem dX12_init_228 : decode cX12_init 228 = .ok (.irem, 1) := by decide +kernel
theorem dX12_init_229 : decode cX12_init 229 = .ok (.iload_n 1, 1) := by decide +kernel
theorem dX12_init_230 : decode cX12_init 230 = .ok (.bipush 10, 2) := by decide +kernel
theorem dX12_init_232 : decode cX12_init 232 = .ok (.idiv, 1) := by decide +kernel
theorem dX12_init_233 : decode cX12_init 233 = .ok (.invokestatic 50, 3) := by decide +kernel
theorem dX12_init_236 : decode cX12_init 236 = .ok (.aload_n 0, 1) := by decide +kernel
theorem dX12_init_237 : decode cX12_init 237 = .ok (.getfield 29, 3) := by decide +kernel
theorem dX12_init_240 : decode cX12_init 240 = .ok (.iload_n 1, 1) := by decide +kernel
theorem dX12_init_241 : decode cX12_init 241 = .ok (.bipush 10, 2) := by decide +kernel
theorem dX12_init_243 : decode cX12_init 243 = .ok (.idiv, 1) := by decide +kernel
theorem dX12_init_244 : decode cX12_init 244 = .ok (.iaload, 1) := by decide +kernel
theorem dX12_init_245 : decode cX12_init 245 = .ok (.iload_n 1, 1) := by decide +kernel
theorem dX12_init_246 : decode cX12_init 246 = .ok (.bipush 10, 2) := by decide +kernel
theorem dX12_init_248 : decode cX12_init 248 = .ok (.irem, 1) := by decide +kernel
theorem dX12_init_249 : decode cX12_init 249 = .ok (.ishr, 1) := by decide +kernel
theorem dX12_init_250 : decode cX12_init 250 = .ok (.iconst 1, 1) := by decide +kernel
theorem dX12_init_251 : decode cX12_init 251 = .ok (.iand, 1) := by decide +kernel
theorem dX12_init_252 : decode cX12_init 252 = .ok (.iastore, 1) := by decide +kernel
theorem dX12_init_253 : decode cX12_init 253 = .ok (.iinc 1 1, 3) := by decide +kernel
theorem dX12_init_256 : decode cX12_init 256 = .ok (.goto (-41), 3) := by decide +kernel
theorem dX12_init_259 : decode cX12_init 259 = .ok (.iconst 0, 1) := by decide +kernel
theorem dX12_init_260 : decode cX12_init 260 = .ok (.istore_n 1, 1) := by decide +kernel
theorem dX12_init_261 : decode cX12_init 261 = .ok (.iload_n 1, 1) := by decide +kernel
theorem dX12_init_262 : decode cX12_init 262 = .ok (.bipush 6, 2) := by decide +kernel
theorem dX12_init_264 : decode cX12_init 264 = .ok (.if_icmp .ge 34, 3) := by decide +kernel
theorem dX12_init_267 : decode cX12_init 267 = .ok (.aload_n 0, 1) := by decide +kernel
theorem dX12_init_268 : decode cX12_init 268 = .ok (.getfield 7, 3) := by decide +kernel
theorem dX12_init_271 : decode cX12_init 271 = .ok (.aload_n 0, 1) := by decide +kernel
theorem dX12_init_272 : decode cX12_init 272 = .ok (.getfield 32, 3) := by decide +kernel
theorem dX12_init_275 : decode cX12_init 275 = .ok (.iconst 2, 1) := by decide +kernel
theorem dX12_init_276 : decode cX12_init 276 = .ok (.iload_n 1, 1) := by decide +kernel
theorem dX12_init_277 : decode cX12_init 277 = .ok (.imul, 1) := by decide +kernel
theorem dX12_init_278 : decode cX12_init 278 = .ok (.iaload, 1) := by decide +kernel
theorem dX12_init_279 : decode cX12_init 279 = .ok (.aload_n 0, 1) := by decide +kernel
theorem dX12_init_280 : decode cX12_init 280 = .ok (.getfield 32, 3) := by decide +kernel
theorem dX12_init_283 : decode cX12_init 283 = .ok (.iconst 2, 1) := by decide +kernel
theorem dX12_init_284 : decode cX12_init 284 = .ok (.iload_n 1, 1) := by decide +kernel
theorem dX12_init_285 : decode cX12_init 285 = .ok (.imul, 1) := by decide +kernel
theorem dX12_init_286 : decode cX12_init 286 = .ok (.iconst 1, 1) := by decide +kernel
theorem dX12_init_287 : decode cX12_init 287 = .ok (.iadd, 1) := by decide +kernel
theorem dX12_init_288 : decode cX12_init 288 = .ok (.iaload, 1) := by decide +kernel
theorem dX12_init_289 : decode cX12_init 289 = .ok (.invokestatic 54, 3) := by decide +kernel
theorem dX12_init_292 : decode cX12_init 292 = .ok (.iinc 1 1, 3) := by decide +kernel
theorem dX12_init_295 : decode cX12_init 295 = .ok (.goto (-34), 3) := by decide +kernel
theorem dX12_init_298 : decode cX12_init 298 = .ok (.aload_n 0, 1) := by decide +kernel
theorem dX12_init_299 : decode cX12_init 299 = .ok (.getfield 7, 3) := by decide +kernel
theorem dX12_init_302 : decode cX12_init 302 = .ok (.sipush 142, 3) := by decide +kernel
theorem dX12_init_305 : decode cX12_init 305 = .ok (.iconst 1, 1) := by decide +kernel
theorem dX12_init_306 : decode cX12_init 306 = .ok (.iastore, 1) := by decide +kernel
theorem dX12_init_307 : decode cX12_init 307 = .ok (.aload_n 0, 1) := by decide +kernel
theorem dX12_init_308 : decode cX12_init 308 = .ok (.getfield 7, 3) := by decide +kernel
theorem dX12_init_311 : decode cX12_init 311 = .ok (.sipush 143, 3) := by decide +kernel
theorem dX12_init_314 : decode cX12_init 314 = .ok (.bipush 20, 2) := by decide +kernel
theorem dX12_init_316 : decode cX12_init 316 = .ok (.iastore, 1) := by decide +kernel
theorem dX12_init_317 : decode cX12_init 317 = .ok (.return_, 1) := by decide +kernel
theorem dX12_write_0 : decode cX12_write 0 = .ok (.iload_n 1, 1) := by decide +kernel
theorem dX12_write_1 : decode cX12_write 1 = .ok (.bipush 32, 2) := by decide +kernel
theorem dX12_write_3 : decode cX12_write 3 = .ok (.bipush 126, 2) := by decide +kernel
theorem dX12_write_5 : decode cX12_write 5 = .ok (.invokestatic 58, 3) := by decide +kernel
theorem dX12_write_8 : decode cX12_write 8 = .ok (.ifCond .ne 5, 3) := by decide +kernel
theorem dX12_write_11 : decode cX12_write 11 = .ok (.iconst (-1), 1) := by decide +kernel
theorem dX12_write_12 : decode cX12_write 12 = .ok (.ireturn, 1) := by decide +kernel
theorem dX12_write_13 : decode cX12_write 13 = .ok (.aload_n 0, 1) := by decide +kernel
theorem dX12_write_14 : decode cX12_write 14 = .ok (.getfield 62, 3) := by decide +kernel
theorem dX12_write_17 : decode cX12_write 17 = .ok (.sipush 200, 3) := by decide +kernel
theorem dX12_write_20 : decode cX12_write 20 = .ok (.if_icmp .ne 6, 3) := by decide +kernel
theorem dX12_write_23 : decode cX12_write 23 = .ok (.bipush (-3), 2) := by decide +kernel
theorem dX12_write_25 : decode cX12_write 25 = .ok (.ireturn, 1) := by decide +kernel
theorem dX12_write_26 : decode cX12_write 26 = .ok (.aload_n 0, 1) := by decide +kernel
theorem dX12_write_27 : decode cX12_write 27 = .ok (.getfield 23, 3) := by decide +kernel
theorem dX12_write_30 : decode cX12_write 30 = .ok (.aload_n 0, 1) := by decide +kernel
theorem dX12_write_31 : decode cX12_write 31 = .ok (.getfield 62, 3) := by decide +kernel
theorem dX12_write_34 : decode cX12_write 34 = .ok (.iload_n 1, 1) := by decide +kernel
theorem dX12_write_35 : decode cX12_write 35 = .ok (.iastore, 1) := by decide +kernel
theorem dX12_write_36 : decode cX12_write 36 = .ok (.aload_n 0, 1) := by decide +kernel
theorem dX12_write_37 : decode cX12_write 37 = .ok (.dup, 1) := by decide +kernel
theorem dX12_write_38 : decode cX12_write 38 = .ok (.getfield 62, 3) := by decide +kernel
theorem dX12_write_41 : decode cX12_write 41 = .ok (.iconst 1, 1) := by decide +kernel
theorem dX12_write_42 : decode cX12_write 42 = .ok (.iadd, 1) := by decide +kernel
theorem dX12_write_43 : decode cX12_write 43 = .ok (.putfield 62, 3) := by decide +kernel
theorem dX12_write_46 : decode cX12_write 46 = .ok (.aload_n 0, 1) := by decide +kernel
theorem dX12_write_47 : decode cX12_write 47 = .ok (.getfield 62, 3) := by decide +kernel
theorem dX12_write_50 : decode cX12_write 50 = .ok (.ireturn, 1) := by decide +kernel
theorem dX12_wipe_0 : decode cX12_wipe 0 = .ok (.aload_n 0, 1) := by decide +kernel
theorem dX12_wipe_1 : decode cX12_wipe 1 = .ok (.getfield 62, 3) := by decide +kernel
theorem dX12_wipe_4 : decode cX12_wipe 4 = .ok (.istore_n 1, 1) := by decide +kernel
theorem dX12_wipe_5 : decode cX12_wipe 5 = .ok (.aload_n 0, 1) := by decide +kernel
theorem dX12_wipe_6 : decode cX12_wipe 6 = .ok (.iconst 0, 1) := by decide +kernel
theorem dX12_wipe_7 : decode cX12_wipe 7 = .ok (.putfield 62, 3) := by decide +kernel
theorem dX12_wipe_10 : decode cX12_wipe 10 = .ok (.iload_n 1, 1) := by decide +kernel
theorem dX12_wipe_11 : decode cX12_wipe 11 = .ok (.ireturn, 1) := by decide +kernel
theorem dX12_letter_0 : decode cX12_letter 0 = .ok (.iload_n 1, 1) := by decide +kernel
theorem dX12_letter_1 : decode cX12_letter 1 = .ok (.aload_n 0, 1) := by decide +kernel
theorem dX12_letter_2 : decode cX12_letter 2 = .ok (.getfield 62, 3) := by decide +kernel
theorem dX12_letter_5 : decode cX12_letter 5 = .ok (.if_icmp .ge 12, 3) := by decide +kernel
theorem dX12_letter_8 : decode cX12_letter 8 = .ok (.aload_n 0, 1) := by decide +kernel
theorem dX12_letter_9 : decode cX12_letter 9 = .ok (.getfield 23, 3) := by decide +kernel
theorem dX12_letter_12 : decode cX12_letter 12 = .ok (.iload_n 1, 1) := by decide +kernel
theorem dX12_letter_13 : decode cX12_letter 13 = .ok (.iaload, 1) := by decide +kernel
theorem dX12_letter_14 : decode cX12_letter 14 = .ok (.goto 4, 3) := by decide +kernel
theorem dX12_letter_17 : decode cX12_letter 17 = .ok (.iconst 0, 1) := by decide +kernel
theorem dX12_letter_18 : decode cX12_letter 18 = .ok (.ireturn, 1) := by decide +kernel
theorem dX12_signOf_0 : decode cX12_signOf 0 = .ok (.iload_n 0, 1) := by decide +kernel
theorem dX12_signOf_1 : decode cX12_signOf 1 = .ok (.bipush 48, 2) := by decide +kernel
theorem dX12_signOf_3 : decode cX12_signOf 3 = .ok (.bipush 57, 2) := by decide +kernel
theorem dX12_signOf_5 : decode cX12_signOf 5 = .ok (.invokestatic 58, 3) := by decide +kernel
theorem dX12_signOf_8 : decode cX12_signOf 8 = .ok (.ifCond .eq 10, 3) := by decide +kernel
theorem dX12_signOf_11 : decode cX12_signOf 11 = .ok (.iload_n 0, 1) := by decide +kernel
theorem dX12_signOf_12 : decode cX12_signOf 12 = .ok (.bipush 48, 2) := by decide +kernel
theorem dX12_signOf_14 : decode cX12_signOf 14 = .ok (.isub, 1) := by decide +kernel
theorem dX12_signOf_15 : decode cX12_signOf 15 = .ok (.goto 27, 3) := by decide +kernel
theorem dX12_signOf_18 : decode cX12_signOf 18 = .ok (.iload_n 0, 1) := by decide +kernel
theorem dX12_signOf_19 : decode cX12_signOf 19 = .ok (.bipush 97, 2) := by decide +kernel
theorem dX12_signOf_21 : decode cX12_signOf 21 = .ok (.if_icmp .ne 8, 3) := by decide +kernel
theorem dX12_signOf_24 : decode cX12_signOf 24 = .ok (.bipush 10, 2) := by decide +kernel
theorem dX12_signOf_26 : decode cX12_signOf 26 = .ok (.goto 16, 3) := by decide +kernel
theorem dX12_signOf_29 : decode cX12_signOf 29 = .ok (.iload_n 0, 1) := by decide +kernel
theorem dX12_signOf_30 : decode cX12_signOf 30 = .ok (.bipush 98, 2) := by decide +kernel
theorem dX12_signOf_32 : decode cX12_signOf 32 = .ok (.if_icmp .ne 8, 3) := by decide +kernel
theorem dX12_signOf_35 : decode cX12_signOf 35 = .ok (.bipush 11, 2) := by decide +kernel
theorem dX12_signOf_37 : decode cX12_signOf 37 = .ok (.goto 5, 3) := by decide +kernel
theorem dX12_signOf_40 : decode cX12_signOf 40 = .ok (.bipush (-4), 2) := by decide +kernel
theorem dX12_signOf_42 : decode cX12_signOf 42 = .ok (.ireturn, 1) := by decide +kernel
theorem dX12_readsGrid_0 : decode cX12_readsGrid 0 = .ok (.aload_n 0, 1) := by decide +kernel
theorem dX12_readsGrid_1 : decode cX12_readsGrid 1 = .ok (.aload_n 0, 1) := by decide +kernel
theorem dX12_readsGrid_2 : decode cX12_readsGrid 2 = .ok (.iload_n 1, 1) := by decide +kernel
theorem dX12_readsGrid_3 : decode cX12_readsGrid 3 = .ok (.iconst 1, 1) := by decide +kernel
theorem dX12_readsGrid_4 : decode cX12_readsGrid 4 = .ok (.iadd, 1) := by decide +kernel
theorem dX12_readsGrid_5 : decode cX12_readsGrid 5 = .ok (.invokevirtual 65, 3) := by decide +kernel
theorem dX12_readsGrid_8 : decode cX12_readsGrid 8 = .ok (.invokestatic 69, 3) := by decide +kernel
theorem dX12_readsGrid_11 : decode cX12_readsGrid 11 = .ok (.putfield 72, 3) := by decide +kernel
theorem dX12_readsGrid_14 : decode cX12_readsGrid 14 = .ok (.aload_n 0, 1) := by decide +kernel
theorem dX12_readsGrid_15 : decode cX12_readsGrid 15 = .ok (.aload_n 0, 1) := by decide +kernel
theorem dX12_readsGrid_16 : decode cX12_readsGrid 16 = .ok (.iload_n 1, 1) := by decide +kernel
theorem dX12_readsGrid_17 : decode cX12_readsGrid 17 = .ok (.iconst 2, 1) := by decide +kernel
theorem dX12_readsGrid_18 : decode cX12_readsGrid 18 = .ok (.iadd, 1) := by decide +kernel
theorem dX12_readsGrid_19 : decode cX12_readsGrid 19 = .ok (.invokevirtual 65, 3) := by decide +kernel
theorem dX12_readsGrid_22 : decode cX12_readsGrid 22 = .ok (.invokestatic 69, 3) := by decide +kernel
theorem dX12_readsGrid_25 : decode cX12_readsGrid 25 = .ok (.putfield 75, 3) := by decide +kernel
theorem dX12_readsGrid_28 : decode cX12_readsGrid 28 = .ok (.iload_n 1, 1) := by decide +kernel
theorem dX12_readsGrid_29 : decode cX12_readsGrid 29 = .ok (.ifCond .ne 33, 3) := by decide +kernel
theorem dX12_readsGrid_32 : decode cX12_readsGrid 32 = .ok (.aload_n 0, 1) := by decide +kernel
theorem dX12_readsGrid_33 : decode cX12_readsGrid 33 = .ok (.getfield 72, 3) := by decide +kernel
theorem dX12_readsGrid_36 : decode cX12_readsGrid 36 = .ok (.iconst 4, 1) := by decide +kernel
theorem dX12_readsGrid_37 : decode cX12_readsGrid 37 = .ok (.bipush 11, 2) := by decide +kernel
theorem dX12_readsGrid_39 : decode cX12_readsGrid 39 = .ok (.invokestatic 58, 3) := by decide +kernel
theorem dX12_readsGrid_42 : decode cX12_readsGrid 42 = .ok (.ifCond .eq 20, 3) := by decide +kernel
theorem dX12_readsGrid_45 : decode cX12_readsGrid 45 = .ok (.aload_n 0, 1) := by decide +kernel
theorem dX12_readsGrid_46 : decode cX12_readsGrid 46 = .ok (.getfield 75, 3) := by decide +kernel
theorem dX12_readsGrid_49 : decode cX12_readsGrid 49 = .ok (.iconst 4, 1) := by decide +kernel
theorem dX12_readsGrid_50 : decode cX12_readsGrid 50 = .ok (.bipush 11, 2) := by decide +kernel
theorem dX12_readsGrid_52 : decode cX12_readsGrid 52 = .ok (.invokestatic 58, 3) := by decide +kernel
theorem dX12_readsGrid_55 : decode cX12_readsGrid 55 = .ok (.ifCond .eq 7, 3) := by decide +kernel
theorem dX12_readsGrid_58 : decode cX12_readsGrid 58 = .ok (.iconst 1, 1) := by decide +kernel
theorem dX12_readsGrid_59 : decode cX12_readsGrid 59 = .ok (.goto 4, 3) := by decide +kernel
theorem dX12_readsGrid_62 : decode cX12_readsGrid 62 = .ok (.iconst 0, 1) := by decide +kernel
theorem dX12_readsGrid_63 : decode cX12_readsGrid 63 = .ok (.ireturn, 1) := by decide +kernel
theorem dX12_readsRow_0 : decode cX12_readsRow 0 = .ok (.aload_n 0, 1) := by decide +kernel
theorem dX12_readsRow_1 : decode cX12_readsRow 1 = .ok (.getfield 78, 3) := by decide +kernel
theorem dX12_readsRow_4 : decode cX12_readsRow 4 = .ok (.aload_n 0, 1) := by decide +kernel
theorem dX12_readsRow_5 : decode cX12_readsRow 5 = .ok (.getfield 75, 3) := by decide +kernel
theorem dX12_readsRow_8 : decode cX12_readsRow 8 = .ok (.if_icmp .ne 5, 3) := by decide +kernel
theorem dX12_readsRow_11 : decode cX12_readsRow 11 = .ok (.iconst 0, 1) := by decide +kernel
theorem dX12_readsRow_12 : decode cX12_readsRow 12 = .ok (.ireturn, 1) := by decide +kernel
theorem dX12_readsRow_13 : decode cX12_readsRow 13 = .ok (.iconst 0, 1) := by decide +kernel
theorem dX12_readsRow_14 : decode cX12_readsRow 14 = .ok (.istore_n 2, 1) := by decide +kernel
theorem dX12_readsRow_15 : decode cX12_readsRow 15 = .ok (.iload_n 2, 1) := by decide +kernel
theorem dX12_readsRow_16 : decode cX12_readsRow 16 = .ok (.aload_n 0, 1) := by decide +kernel
theorem dX12_readsRow_17 : decode cX12_readsRow 17 = .ok (.getfield 72, 3) := by decide +kernel
theorem dX12_readsRow_20 : decode cX12_readsRow 20 = .ok (.if_icmp .ge 58, 3) := by decide +kernel
theorem dX12_readsRow_23 : decode cX12_readsRow 23 = .ok (.aload_n 0, 1) := by decide +kernel
theorem dX12_readsRow_24 : decode cX12_readsRow 24 = .ok (.iload_n 1, 1) := by decide +kernel
theorem dX12_readsRow_25 : decode cX12_readsRow 25 = .ok (.iconst 1, 1) := by decide +kernel
theorem dX12_readsRow_26 : decode cX12_readsRow 26 = .ok (.iadd, 1) := by decide +kernel
theorem dX12_readsRow_27 : decode cX12_readsRow 27 = .ok (.iload_n 2, 1) := by decide +kernel
theorem dX12_readsRow_28 : decode cX12_readsRow 28 = .ok (.iadd, 1) := by decide +kernel
theorem dX12_readsRow_29 : decode cX12_readsRow 29 = .ok (.invokevirtual 65, 3) := by decide +kernel
theorem dX12_readsRow_32 : decode cX12_readsRow 32 = .ok (.istore_n 3, 1) := by decide +kernel
theorem dX12_readsRow_33 : decode cX12_readsRow 33 = .ok (.iload_n 3, 1) := by decide +kernel
theorem dX12_readsRow_34 : decode cX12_readsRow 34 = .ok (.bipush 35, 2) := by decide +kernel
theorem dX12_readsRow_36 : decode cX12_readsRow 36 = .ok (.if_icmp .eq 11, 3) := by decide +kernel
theorem dX12_readsRow_39 : decode cX12_readsRow 39 = .ok (.iload_n 3, 1) := by decide +kernel
theorem dX12_readsRow_40 : decode cX12_readsRow 40 = .ok (.bipush 46, 2) := by decide +kernel
theorem dX12_readsRow_42 : decode cX12_readsRow 42 = .ok (.if_icmp .eq 5, 3) := by decide +kernel
theorem dX12_readsRow_45 : decode cX12_readsRow 45 = .ok (.iconst 0, 1) := by decide +kernel
theorem dX12_readsRow_46 : decode cX12_readsRow 46 = .ok (.ireturn, 1) := by decide +kernel
theorem dX12_readsRow_47 : decode cX12_readsRow 47 = .ok (.aload_n 0, 1) := by decide +kernel
theorem dX12_readsRow_48 : decode cX12_readsRow 48 = .ok (.getfield 26, 3) := by decide +kernel
theorem dX12_readsRow_51 : decode cX12_readsRow 51 = .ok (.bipush 11, 2) := by decide +kernel
theorem dX12_readsRow_53 : decode cX12_readsRow 53 = .ok (.aload_n 0, 1) := by decide +kernel
theorem dX12_readsRow_54 : decode cX12_readsRow 54 = .ok (.getfield 78, 3) := by decide +kernel
theorem dX12_readsRow_57 : decode cX12_readsRow 57 = .ok (.imul, 1) := by decide +kernel
theorem dX12_readsRow_58 : decode cX12_readsRow 58 = .ok (.iload_n 2, 1) := by decide +kernel
theorem dX12_readsRow_59 : decode cX12_readsRow 59 = .ok (.iadd, 1) := by decide +kernel
theorem dX12_readsRow_60 : decode cX12_readsRow 60 = .ok (.iload_n 3, 1) := by decide +kernel
theorem dX12_readsRow_61 : decode cX12_readsRow 61 = .ok (.bipush 35, 2) := by decide +kernel
theorem dX12_readsRow_63 : decode cX12_readsRow 63 = .ok (.if_icmp .ne 7, 3) := by decide +kernel
theorem dX12_readsRow_66 : decode cX12_readsRow 66 = .ok (.iconst 1, 1) := by decide +kernel
theorem dX12_readsRow_67 : decode cX12_readsRow 67 = .ok (.goto 4, 3) := by decide +kernel
theorem dX12_readsRow_70 : decode cX12_readsRow 70 = .ok (.iconst 0, 1) := by decide +kernel
theorem dX12_readsRow_71 : decode cX12_readsRow 71 = .ok (.iastore, 1) := by decide +kernel
theorem dX12_readsRow_72 : decode cX12_readsRow 72 = .ok (.iinc 2 1, 3) := by decide +kernel
theorem dX12_readsRow_75 : decode cX12_readsRow 75 = .ok (.goto (-60), 3) := by decide +kernel
theorem dX12_readsRow_78 : decode cX12_readsRow 78 = .ok (.aload_n 0, 1) := by decide +kernel
theorem dX12_readsRow_79 : decode cX12_readsRow 79 = .ok (.dup, 1) := by decide +kernel
theorem dX12_readsRow_80 : decode cX12_readsRow 80 = .ok (.getfield 78, 3) := by decide +kernel
theorem dX12_readsRow_83 : decode cX12_readsRow 83 = .ok (.iconst 1, 1) := by decide +kernel
theorem dX12_readsRow_84 : decode cX12_readsRow 84 = .ok (.iadd, 1) := by decide +kernel
theorem dX12_readsRow_85 : decode cX12_readsRow 85 = .ok (.putfield 78, 3) := by decide +kernel
theorem dX12_readsRow_88 : decode cX12_readsRow 88 = .ok (.iconst 1, 1) := by decide +kernel
theorem dX12_readsRow_89 : decode cX12_readsRow 89 = .ok (.ireturn, 1) := by decide +kernel
theorem dX12_readsDot_0 : decode cX12_readsDot 0 = .ok (.aload_n 0, 1) := by decide +kernel
theorem dX12_readsDot_1 : decode cX12_readsDot 1 = .ok (.iload_n 1, 1) := by decide +kernel
theorem dX12_readsDot_2 : decode cX12_readsDot 2 = .ok (.iconst 1, 1) := by decide +kernel
theorem dX12_readsDot_3 : decode cX12_readsDot 3 = .ok (.iadd, 1) := by decide +kernel
theorem dX12_readsDot_4 : decode cX12_readsDot 4 = .ok (.invokevirtual 65, 3) := by decide +kernel
theorem dX12_readsDot_7 : decode cX12_readsDot 7 = .ok (.bipush 102, 2) := by decide +kernel
theorem dX12_readsDot_9 : decode cX12_readsDot 9 = .ok (.isub, 1) := by decide +kernel
theorem dX12_readsDot_10 : decode cX12_readsDot 10 = .ok (.istore_n 2, 1) := by decide +kernel
theorem dX12_readsDot_11 : decode cX12_readsDot 11 = .ok (.aload_n 0, 1) := by decide +kernel
theorem dX12_readsDot_12 : decode cX12_readsDot 12 = .ok (.iload_n 1, 1) := by decide +kernel
theorem dX12_readsDot_13 : decode cX12_readsDot 13 = .ok (.iconst 2, 1) := by decide +kernel
theorem dX12_readsDot_14 : decode cX12_readsDot 14 = .ok (.iadd, 1) := by decide +kernel
theorem dX12_readsDot_15 : decode cX12_readsDot 15 = .ok (.invokevirtual 65, 3) := by decide +kernel
theorem dX12_readsDot_18 : decode cX12_readsDot 18 = .ok (.bipush 102, 2) := by decide +kernel
theorem dX12_readsDot_20 : decode cX12_readsDot 20 = .ok (.isub, 1) := by decide +kernel
theorem dX12_readsDot_21 : decode cX12_readsDot 21 = .ok (.istore_n 3, 1) := by decide +kernel
theorem dX12_readsDot_22 : decode cX12_readsDot 22 = .ok (.iload_n 2, 1) := by decide +kernel
theorem dX12_readsDot_23 : decode cX12_readsDot 23 = .ok (.bipush (-5), 2) := by decide +kernel
theorem dX12_readsDot_25 : decode cX12_readsDot 25 = .ok (.iconst 5, 1) := by decide +kernel
theorem dX12_readsDot_26 : decode cX12_readsDot 26 = .ok (.invokestatic 58, 3) := by decide +kernel
theorem dX12_readsDot_29 : decode cX12_readsDot 29 = .ok (.ifCond .eq 40, 3) := by decide +kernel
theorem dX12_readsDot_32 : decode cX12_readsDot 32 = .ok (.iload_n 3, 1) := by decide +kernel
theorem dX12_readsDot_33 : decode cX12_readsDot 33 = .ok (.bipush (-5), 2) := by decide +kernel
theorem dX12_readsDot_35 : decode cX12_readsDot 35 = .ok (.iconst 5, 1) := by decide +kernel
theorem dX12_readsDot_36 : decode cX12_readsDot 36 = .ok (.invokestatic 58, 3) := by decide +kernel
theorem dX12_readsDot_39 : decode cX12_readsDot 39 = .ok (.ifCond .eq 30, 3) := by decide +kernel
theorem dX12_readsDot_42 : decode cX12_readsDot 42 = .ok (.aload_n 0, 1) := by decide +kernel
theorem dX12_readsDot_43 : decode cX12_readsDot 43 = .ok (.getfield 26, 3) := by decide +kernel
theorem dX12_readsDot_46 : decode cX12_readsDot 46 = .ok (.sipush 141, 3) := by decide +kernel
theorem dX12_readsDot_49 : decode cX12_readsDot 49 = .ok (.iaload, 1) := by decide +kernel
theorem dX12_readsDot_50 : decode cX12_readsDot 50 = .ok (.bipush 10, 2) := by decide +kernel
theorem dX12_readsDot_52 : decode cX12_readsDot 52 = .ok (.if_icmp .eq 17, 3) := by decide +kernel
theorem dX12_readsDot_55 : decode cX12_readsDot 55 = .ok (.aload_n 0, 1) := by decide +kernel
theorem dX12_readsDot_56 : decode cX12_readsDot 56 = .ok (.getfield 26, 3) := by decide +kernel
theorem dX12_readsDot_59 : decode cX12_readsDot 59 = .ok (.iload_n 2, 1) := by decide +kernel
theorem dX12_readsDot_60 : decode cX12_readsDot 60 = .ok (.iload_n 3, 1) := by decide +kernel
theorem dX12_readsDot_61 : decode cX12_readsDot 61 = .ok (.invokestatic 81, 3) := by decide +kernel
theorem dX12_readsDot_64 : decode cX12_readsDot 64 = .ok (.bipush (-4), 2) := by decide +kernel
theorem dX12_readsDot_66 : decode cX12_readsDot 66 = .ok (.if_icmp .eq 5, 3) := by decide +kernel
theorem dX12_readsDot_69 : decode cX12_readsDot 69 = .ok (.iconst 0, 1) := by decide +kernel
theorem dX12_readsDot_70 : decode cX12_readsDot 70 = .ok (.ireturn, 1) := by decide +kernel
theorem dX12_readsDot_71 : decode cX12_readsDot 71 = .ok (.aload_n 0, 1) := by decide +kernel
theorem dX12_readsDot_72 : decode cX12_readsDot 72 = .ok (.getfield 26, 3) := by decide +kernel
theorem dX12_readsDot_75 : decode cX12_readsDot 75 = .ok (.iload_n 2, 1) := by decide +kernel
theorem dX12_readsDot_76 : decode cX12_readsDot 76 = .ok (.iload_n 3, 1) := by decide +kernel
theorem dX12_readsDot_77 : decode cX12_readsDot 77 = .ok (.invokestatic 54, 3) := by decide +kernel
theorem dX12_readsDot_80 : decode cX12_readsDot 80 = .ok (.iconst 1, 1) := by decide +kernel
theorem dX12_readsDot_81 : decode cX12_readsDot 81 = .ok (.ireturn, 1) := by decide +kernel
theorem dX12_readsMeasure_0 : decode cX12_readsMeasure 0 = .ok (.aload_n 0, 1) := by decide +kernel
theorem dX12_readsMeasure_1 : decode cX12_readsMeasure 1 = .ok (.iload_n 1, 1) := by decide +kernel
theorem dX12_readsMeasure_2 : decode cX12_readsMeasure 2 = .ok (.iconst 1, 1) := by decide +kernel
theorem dX12_readsMeasure_3 : decode cX12_readsMeasure 3 = .ok (.iadd, 1) := by decide +kernel
theorem dX12_readsMeasure_4 : decode cX12_readsMeasure 4 = .ok (.invokevirtual 65, 3) := by decide +kernel
theorem dX12_readsMeasure_7 : decode cX12_readsMeasure 7 = .ok (.bipush 48, 2) := by decide +kernel
theorem dX12_readsMeasure_9 : decode cX12_readsMeasure 9 = .ok (.isub, 1) := by decide +kernel
theorem dX12_readsMeasure_10 : decode cX12_readsMeasure 10 = .ok (.istore_n 2, 1) := by decide +kernel
theorem dX12_readsMeasure_11 : decode cX12_readsMeasure 11 = .ok (.aload_n 0, 1) := by decide +kernel
theorem dX12_readsMeasure_12 : decode cX12_readsMeasure 12 = .ok (.iload_n 1, 1) := by decide +kernel
theorem dX12_readsMeasure_13 : decode cX12_readsMeasure 13 = .ok (.iconst 2, 1) := by decide +kernel
theorem dX12_readsMeasure_14 : decode cX12_readsMeasure 14 = .ok (.iadd, 1) := by decide +kernel
theorem dX12_readsMeasure_15 : decode cX12_readsMeasure 15 = .ok (.invokevirtual 65, 3) := by decide +kernel
theorem dX12_readsMeasure_18 : decode cX12_readsMeasure 18 = .ok (.bipush 48, 2) := by decide +kernel
theorem dX12_readsMeasure_20 : decode cX12_readsMeasure 20 = .ok (.isub, 1) := by decide +kernel
theorem dX12_readsMeasure_21 : decode cX12_readsMeasure 21 = .ok (.istore_n 3, 1) := by decide +kernel
theorem dX12_readsMeasure_22 : decode cX12_readsMeasure 22 = .ok (.aload_n 0, 1) := by decide +kernel
theorem dX12_readsMeasure_23 : decode cX12_readsMeasure 23 = .ok (.iload_n 1, 1) := by decide +kernel
theorem dX12_readsMeasure_24 : decode cX12_readsMeasure 24 = .ok (.iconst 3, 1) := by decide +kernel
theorem dX12_readsMeasure_25 : decode cX12_readsMeasure 25 = .ok (.iadd, 1) := by decide +kernel
theorem dX12_readsMeasure_26 : decode cX12_readsMeasure 26 = .ok (.invokevirtual 65, 3) := by decide +kernel
theorem dX12_readsMeasure_29 : decode cX12_readsMeasure 29 = .ok (.bipush 48, 2) := by decide +kernel
theorem dX12_readsMeasure_31 : decode cX12_readsMeasure 31 = .ok (.isub, 1) := by decide +kernel
theorem dX12_readsMeasure_32 : decode cX12_readsMeasure 32 = .ok (.istore 4, 2) := by decide +kernel
theorem dX12_readsMeasure_34 : decode cX12_readsMeasure 34 = .ok (.iload_n 2, 1) := by decide +kernel
theorem dX12_readsMeasure_35 : decode cX12_readsMeasure 35 = .ok (.iconst 0, 1) := by decide +kernel
theorem dX12_readsMeasure_36 : decode cX12_readsMeasure 36 = .ok (.iconst 2, 1) := by decide +kernel
theorem dX12_readsMeasure_37 : decode cX12_readsMeasure 37 = .ok (.invokestatic 58, 3) := by decide +kernel
theorem dX12_readsMeasure_40 : decode cX12_readsMeasure 40 = .ok (.ifCond .eq 35, 3) := by decide +kernel
theorem dX12_readsMeasure_43 : decode cX12_readsMeasure 43 = .ok (.iload_n 3, 1) := by decide +kernel
theorem dX12_readsMeasure_44 : decode cX12_readsMeasure 44 = .ok (.iconst 0, 1) := by decide +kernel
theorem dX12_readsMeasure_45 : decode cX12_readsMeasure 45 = .ok (.bipush 9, 2) := by decide +kernel
theorem dX12_readsMeasure_47 : decode cX12_readsMeasure 47 = .ok (.invokestatic 58, 3) := by decide +kernel
theorem dX12_readsMeasure_50 : decode cX12_readsMeasure 50 = .ok (.ifCond .eq 25, 3) := by decide +kernel
theorem dX12_readsMeasure_53 : decode cX12_readsMeasure 53 = .ok (.iload 4, 2) := by decide +kernel
theorem dX12_readsMeasure_55 : decode cX12_readsMeasure 55 = .ok (.iconst 0, 1) := by decide +kernel
theorem dX12_readsMeasure_56 : decode cX12_readsMeasure 56 = .ok (.bipush 9, 2) := by decide +kernel
theorem dX12_readsMeasure_58 : decode cX12_readsMeasure 58 = .ok (.invokestatic 58, 3) := by decide +kernel
theorem dX12_readsMeasure_61 : decode cX12_readsMeasure 61 = .ok (.ifCond .eq 14, 3) := by decide +kernel
theorem dX12_readsMeasure_64 : decode cX12_readsMeasure 64 = .ok (.iload_n 3, 1) := by decide +kernel
theorem dX12_readsMeasure_65 : decode cX12_readsMeasure 65 = .ok (.iload 4, 2) := by decide +kernel
theorem dX12_readsMeasure_67 : decode cX12_readsMeasure 67 = .ok (.iadd, 1) := by decide +kernel
theorem dX12_readsMeasure_68 : decode cX12_readsMeasure 68 = .ok (.ifCond .le 7, 3) := by decide +kernel
theorem dX12_readsMeasure_71 : decode cX12_readsMeasure 71 = .ok (.iconst 1, 1) := by decide +kernel
theorem dX12_readsMeasure_72 : decode cX12_readsMeasure 72 = .ok (.goto 4, 3) := by decide +kernel
theorem dX12_readsMeasure_75 : decode cX12_readsMeasure 75 = .ok (.iconst 0, 1) := by decide +kernel
theorem dX12_readsMeasure_76 : decode cX12_readsMeasure 76 = .ok (.istore 5, 2) := by decide +kernel
theorem dX12_readsMeasure_78 : decode cX12_readsMeasure 78 = .ok (.aload_n 0, 1) := by decide +kernel
theorem dX12_readsMeasure_79 : decode cX12_readsMeasure 79 = .ok (.getfield 26, 3) := by decide +kernel
theorem dX12_readsMeasure_82 : decode cX12_readsMeasure 82 = .ok (.sipush 142, 3) := by decide +kernel
theorem dX12_readsMeasure_85 : decode cX12_readsMeasure 85 = .ok (.iload_n 2, 1) := by decide +kernel
theorem dX12_readsMeasure_86 : decode cX12_readsMeasure 86 = .ok (.iastore, 1) := by decide +kernel
theorem dX12_readsMeasure_87 : decode cX12_readsMeasure 87 = .ok (.aload_n 0, 1) := by decide +kernel
theorem dX12_readsMeasure_88 : decode cX12_readsMeasure 88 = .ok (.getfield 26, 3) := by decide +kernel
theorem dX12_readsMeasure_91 : decode cX12_readsMeasure 91 = .ok (.sipush 143, 3) := by decide +kernel
theorem dX12_readsMeasure_94 : decode cX12_readsMeasure 94 = .ok (.bipush 10, 2) := by decide +kernel
theorem dX12_readsMeasure_96 : decode cX12_readsMeasure 96 = .ok (.iload_n 3, 1) := by decide +kernel
theorem dX12_readsMeasure_97 : decode cX12_readsMeasure 97 = .ok (.imul, 1) := by decide +kernel
theorem dX12_readsMeasure_98 : decode cX12_readsMeasure 98 = .ok (.iload 4, 2) := by decide +kernel
theorem dX12_readsMeasure_100 : decode cX12_readsMeasure 100 = .ok (.iadd, 1) := by decide +kernel
theorem dX12_readsMeasure_101 : decode cX12_readsMeasure 101 = .ok (.iastore, 1) := by decide +kernel
theorem dX12_readsMeasure_102 : decode cX12_readsMeasure 102 = .ok (.iload 5, 2) := by decide +kernel
theorem dX12_readsMeasure_104 : decode cX12_readsMeasure 104 = .ok (.ireturn, 1) := by decide +kernel
theorem dX12_dotAt_0 : decode cX12_dotAt 0 = .ok (.iconst 0, 1) := by decide +kernel
theorem dX12_dotAt_1 : decode cX12_dotAt 1 = .ok (.istore_n 3, 1) := by decide +kernel
theorem dX12_dotAt_2 : decode cX12_dotAt 2 = .ok (.iload_n 3, 1) := by decide +kernel
theorem dX12_dotAt_3 : decode cX12_dotAt 3 = .ok (.aload_n 0, 1) := by decide +kernel
theorem dX12_dotAt_4 : decode cX12_dotAt 4 = .ok (.sipush 141, 3) := by decide +kernel
theorem dX12_dotAt_7 : decode cX12_dotAt 7 = .ok (.iaload, 1) := by decide +kernel
theorem dX12_dotAt_8 : decode cX12_dotAt 8 = .ok (.if_icmp .ge 32, 3) := by decide +kernel
theorem dX12_dotAt_11 : decode cX12_dotAt 11 = .ok (.aload_n 0, 1) := by decide +kernel
theorem dX12_dotAt_12 : decode cX12_dotAt 12 = .ok (.bipush 121, 2) := by decide +kernel
theorem dX12_dotAt_14 : decode cX12_dotAt 14 = .ok (.iload_n 3, 1) := by decide +kernel
theorem dX12_dotAt_15 : decode cX12_dotAt 15 = .ok (.iadd, 1) := by decide +kernel
theorem dX12_dotAt_16 : decode cX12_dotAt 16 = .ok (.iaload, 1) := by decide +kernel
theorem dX12_dotAt_17 : decode cX12_dotAt 17 = .ok (.iload_n 1, 1) := by decide +kernel
theorem dX12_dotAt_18 : decode cX12_dotAt 18 = .ok (.if_icmp .ne 16, 3) := by decide +kernel
theorem dX12_dotAt_21 : decode cX12_dotAt 21 = .ok (.aload_n 0, 1) := by decide +kernel
theorem dX12_dotAt_22 : decode cX12_dotAt 22 = .ok (.sipush 131, 3) := by decide +kernel
theorem dX12_dotAt_25 : decode cX12_dotAt 25 = .ok (.iload_n 3, 1) := by decide +kernel
theorem dX12_dotAt_26 : decode cX12_dotAt 26 = .ok (.iadd, 1) := by decide +kernel
theorem dX12_dotAt_27 : decode cX12_dotAt 27 = .ok (.iaload, 1) := by decide +kernel
theorem dX12_dotAt_28 : decode cX12_dotAt 28 = .ok (.iload_n 2, 1) := by decide +kernel
theorem dX12_dotAt_29 : decode cX12_dotAt 29 = .ok (.if_icmp .ne 5, 3) := by decide +kernel
theorem dX12_dotAt_32 : decode cX12_dotAt 32 = .ok (.iload_n 3, 1) := by decide +kernel
theorem dX12_dotAt_33 : decode cX12_dotAt 33 = .ok (.ireturn, 1) := by decide +kernel
theorem dX12_dotAt_34 : decode cX12_dotAt 34 = .ok (.iinc 3 1, 3) := by decide +kernel
theorem dX12_dotAt_37 : decode cX12_dotAt 37 = .ok (.goto (-35), 3) := by decide +kernel
theorem dX12_dotAt_40 : decode cX12_dotAt 40 = .ok (.bipush (-4), 2) := by decide +kernel
theorem dX12_dotAt_42 : decode cX12_dotAt 42 = .ok (.ireturn, 1) := by decide +kernel
theorem dX12_comesDot_0 : decode cX12_comesDot 0 = .ok (.aload_n 0, 1) := by decide +kernel
theorem dX12_comesDot_1 : decode cX12_comesDot 1 = .ok (.bipush 121, 2) := by decide +kernel
theorem dX12_comesDot_3 : decode cX12_comesDot 3 = .ok (.aload_n 0, 1) := by decide +kernel
theorem dX12_comesDot_4 : decode cX12_comesDot 4 = .ok (.sipush 141, 3) := by decide +kernel
theorem dX12_comesDot_7 : decode cX12_comesDot 7 = .ok (.iaload, 1) := by decide +kernel
theorem dX12_comesDot_8 : decode cX12_comesDot 8 = .ok (.iadd, 1) := by decide +kernel
theorem dX12_comesDot_9 : decode cX12_comesDot 9 = .ok (.iload_n 1, 1) := by decide +kernel
theorem dX12_comesDot_10 : decode cX12_comesDot 10 = .ok (.iastore, 1) := by decide +kernel
theorem dX12_comesDot_11 : decode cX12_comesDot 11 = .ok (.aload_n 0, 1) := by decide +kernel
theorem dX12_comesDot_12 : decode cX12_comesDot 12 = .ok (.sipush 131, 3) := by decide +kernel
theorem dX12_comesDot_15 : decode cX12_comesDot 15 = .ok (.aload_n 0, 1) := by decide +kernel
theorem dX12_comesDot_16 : decode cX12_comesDot 16 = .ok (.sipush 141, 3) := by decide +kernel
theorem dX12_comesDot_19 : decode cX12_comesDot 19 = .ok (.iaload, 1) := by decide +kernel
theorem dX12_comesDot_20 : decode cX12_comesDot 20 = .ok (.iadd, 1) := by decide +kernel
theorem dX12_comesDot_21 : decode cX12_comesDot 21 = .ok (.iload_n 2, 1) := by decide +kernel
theorem dX12_comesDot_22 : decode cX12_comesDot 22 = .ok (.iastore, 1) := by decide +kernel
theorem dX12_comesDot_23 : decode cX12_comesDot 23 = .ok (.aload_n 0, 1) := by decide +kernel
theorem dX12_comesDot_24 : decode cX12_comesDot 24 = .ok (.sipush 141, 3) := by decide +kernel
theorem dX12_comesDot_27 : decode cX12_comesDot 27 = .ok (.dup2, 1) := by decide +kernel
theorem dX12_comesDot_28 : decode cX12_comesDot 28 = .ok (.iaload, 1) := by decide +kernel
theorem dX12_comesDot_29 : decode cX12_comesDot 29 = .ok (.iconst 1, 1) := by decide +kernel
theorem dX12_comesDot_30 : decode cX12_comesDot 30 = .ok (.iadd, 1) := by decide +kernel
theorem dX12_comesDot_31 : decode cX12_comesDot 31 = .ok (.iastore, 1) := by decide +kernel
theorem dX12_comesDot_32 : decode cX12_comesDot 32 = .ok (.return_, 1) := by decide +kernel
theorem dX12_readsItem_0 : decode cX12_readsItem 0 = .ok (.aload_n 0, 1) := by decide +kernel
theorem dX12_readsItem_1 : decode cX12_readsItem 1 = .ok (.iload_n 1, 1) := by decide +kernel
theorem dX12_readsItem_2 : decode cX12_readsItem 2 = .ok (.invokevirtual 65, 3) := by decide +kernel
theorem dX12_readsItem_5 : decode cX12_readsItem 5 = .ok (.istore_n 2, 1) := by decide +kernel
theorem dX12_readsItem_6 : decode cX12_readsItem 6 = .ok (.iload_n 2, 1) := by decide +kernel
theorem dX12_readsItem_7 : decode cX12_readsItem 7 = .ok (.bipush 103, 2) := by decide +kernel
theorem dX12_readsItem_9 : decode cX12_readsItem 9 = .ok (.if_icmp .ne 18, 3) := by decide +kernel
theorem dX12_readsItem_12 : decode cX12_readsItem 12 = .ok (.aload_n 0, 1) := by decide +kernel
theorem dX12_readsItem_13 : decode cX12_readsItem 13 = .ok (.iload_n 1, 1) := by decide +kernel
theorem dX12_readsItem_14 : decode cX12_readsItem 14 = .ok (.invokevirtual 85, 3) := by decide +kernel
theorem dX12_readsItem_17 : decode cX12_readsItem 17 = .ok (.ifCond .eq 7, 3) := by decide +kernel
theorem dX12_readsItem_20 : decode cX12_readsItem 20 = .ok (.iconst 2, 1) := by decide +kernel
theorem dX12_readsItem_21 : decode cX12_readsItem 21 = .ok (.goto 5, 3) := by decide +kernel
theorem dX12_readsItem_24 : decode cX12_readsItem 24 = .ok (.bipush (-4), 2) := by decide +kernel
theorem dX12_readsItem_26 : decode cX12_readsItem 26 = .ok (.ireturn, 1) := by decide +kernel
theorem dX12_readsItem_27 : decode cX12_readsItem 27 = .ok (.iload_n 1, 1) := by decide +kernel
theorem dX12_readsItem_28 : decode cX12_readsItem 28 = .ok (.ifCond .ne 6, 3) := by decide +kernel
theorem dX12_readsItem_31 : decode cX12_readsItem 31 = .ok (.bipush (-4), 2) := by decide +kernel
theorem dX12_readsItem_33 : decode cX12_readsItem 33 = .ok (.ireturn, 1) := by decide +kernel
theorem dX12_readsItem_34 : decode cX12_readsItem 34 = .ok (.iload_n 2, 1) := by decide +kernel
theorem dX12_readsItem_35 : decode cX12_readsItem 35 = .ok (.lookupswitch 81 #[(100, 51), (109, 66), (114, 33)], 33) := by decide +kernel
theorem dX12_readsItem_68 : decode cX12_readsItem 68 = .ok (.aload_n 0, 1) := by decide +kernel
theorem dX12_readsItem_69 : decode cX12_readsItem 69 = .ok (.iload_n 1, 1) := by decide +kernel
theorem dX12_readsItem_70 : decode cX12_readsItem 70 = .ok (.invokevirtual 89, 3) := by decide +kernel
theorem dX12_readsItem_73 : decode cX12_readsItem 73 = .ok (.ifCond .eq 10, 3) := by decide +kernel
theorem dX12_readsItem_76 : decode cX12_readsItem 76 = .ok (.aload_n 0, 1) := by decide +kernel
theorem dX12_readsItem_77 : decode cX12_readsItem 77 = .ok (.getfield 72, 3) := by decide +kernel
theorem dX12_readsItem_80 : decode cX12_readsItem 80 = .ok (.goto 5, 3) := by decide +kernel
theorem dX12_readsItem_83 : decode cX12_readsItem 83 = .ok (.bipush (-4), 2) := by decide +kernel
theorem dX12_readsItem_85 : decode cX12_readsItem 85 = .ok (.ireturn, 1) := by decide +kernel
theorem dX12_readsItem_86 : decode cX12_readsItem 86 = .ok (.aload_n 0, 1) := by decide +kernel
theorem dX12_readsItem_87 : decode cX12_readsItem 87 = .ok (.iload_n 1, 1) := by decide +kernel
theorem dX12_readsItem_88 : decode cX12_readsItem 88 = .ok (.invokevirtual 92, 3) := by decide +kernel
theorem dX12_readsItem_91 : decode cX12_readsItem 91 = .ok (.ifCond .eq 7, 3) := by decide +kernel
theorem dX12_readsItem_94 : decode cX12_readsItem 94 = .ok (.iconst 2, 1) := by decide +kernel
theorem dX12_readsItem_95 : decode cX12_readsItem 95 = .ok (.goto 5, 3) := by decide +kernel
theorem dX12_readsItem_98 : decode cX12_readsItem 98 = .ok (.bipush (-4), 2) := by decide +kernel
theorem dX12_readsItem_100 : decode cX12_readsItem 100 = .ok (.ireturn, 1) := by decide +kernel
theorem dX12_readsItem_101 : decode cX12_readsItem 101 = .ok (.aload_n 0, 1) := by decide +kernel
theorem dX12_readsItem_102 : decode cX12_readsItem 102 = .ok (.iload_n 1, 1) := by decide +kernel
theorem dX12_readsItem_103 : decode cX12_readsItem 103 = .ok (.invokevirtual 95, 3) := by decide +kernel
theorem dX12_readsItem_106 : decode cX12_readsItem 106 = .ok (.ifCond .eq 7, 3) := by decide +kernel
theorem dX12_readsItem_109 : decode cX12_readsItem 109 = .ok (.iconst 3, 1) := by decide +kernel
theorem dX12_readsItem_110 : decode cX12_readsItem 110 = .ok (.goto 5, 3) := by decide +kernel
theorem dX12_readsItem_113 : decode cX12_readsItem 113 = .ok (.bipush (-4), 2) := by decide +kernel
theorem dX12_readsItem_115 : decode cX12_readsItem 115 = .ok (.ireturn, 1) := by decide +kernel
theorem dX12_readsItem_116 : decode cX12_readsItem 116 = .ok (.bipush (-4), 2) := by decide +kernel
theorem dX12_readsItem_118 : decode cX12_readsItem 118 = .ok (.ireturn, 1) := by decide +kernel
theorem dX12_reads_0 : decode cX12_reads 0 = .ok (.iconst 0, 1) := by decide +kernel
theorem dX12_reads_1 : decode cX12_reads 1 = .ok (.istore_n 1, 1) := by decide +kernel
theorem dX12_reads_2 : decode cX12_reads 2 = .ok (.iload_n 1, 1) := by decide +kernel
theorem dX12_reads_3 : decode cX12_reads 3 = .ok (.sipush 145, 3) := by decide +kernel
theorem dX12_reads_6 : decode cX12_reads 6 = .ok (.if_icmp .ge 16, 3) := by decide +kernel
theorem dX12_reads_9 : decode cX12_reads 9 = .ok (.aload_n 0, 1) := by decide +kernel
theorem dX12_reads_10 : decode cX12_reads 10 = .ok (.getfield 26, 3) := by decide +kernel
theorem dX12_reads_13 : decode cX12_reads 13 = .ok (.iload_n 1, 1) := by decide +kernel
theorem dX12_reads_14 : decode cX12_reads 14 = .ok (.iconst 0, 1) := by decide +kernel
theorem dX12_reads_15 : decode cX12_reads 15 = .ok (.iastore, 1) := by decide +kernel
theorem dX12_reads_16 : decode cX12_reads 16 = .ok (.iinc 1 1, 3) := by decide +kernel
theorem dX12_reads_19 : decode cX12_reads 19 = .ok (.goto (-17), 3) := by decide +kernel
theorem dX12_reads_22 : decode cX12_reads 22 = .ok (.aload_n 0, 1) := by decide +kernel
theorem dX12_reads_23 : decode cX12_reads 23 = .ok (.getfield 26, 3) := by decide +kernel
theorem dX12_reads_26 : decode cX12_reads 26 = .ok (.sipush 143, 3) := by decide +kernel
theorem dX12_reads_29 : decode cX12_reads 29 = .ok (.bipush 99, 2) := by decide +kernel
theorem dX12_reads_31 : decode cX12_reads 31 = .ok (.iastore, 1) := by decide +kernel
theorem dX12_reads_32 : decode cX12_reads 32 = .ok (.aload_n 0, 1) := by decide +kernel
theorem dX12_reads_33 : decode cX12_reads 33 = .ok (.iconst 0, 1) := by decide +kernel
theorem dX12_reads_34 : decode cX12_reads 34 = .ok (.putfield 78, 3) := by decide +kernel
theorem dX12_reads_37 : decode cX12_reads 37 = .ok (.iconst 0, 1) := by decide +kernel
theorem dX12_reads_38 : decode cX12_reads 38 = .ok (.istore_n 1, 1) := by decide +kernel
theorem dX12_reads_39 : decode cX12_reads 39 = .ok (.iload_n 1, 1) := by decide +kernel
theorem dX12_reads_40 : decode cX12_reads 40 = .ok (.aload_n 0, 1) := by decide +kernel
theorem dX12_reads_41 : decode cX12_reads 41 = .ok (.getfield 62, 3) := by decide +kernel
theorem dX12_reads_44 : decode cX12_reads 44 = .ok (.if_icmp .ge 40, 3) := by decide +kernel
theorem dX12_reads_47 : decode cX12_reads 47 = .ok (.aload_n 0, 1) := by decide +kernel
theorem dX12_reads_48 : decode cX12_reads 48 = .ok (.iload_n 1, 1) := by decide +kernel
theorem dX12_reads_49 : decode cX12_reads 49 = .ok (.invokevirtual 98, 3) := by decide +kernel
theorem dX12_reads_52 : decode cX12_reads 52 = .ok (.istore_n 2, 1) := by decide +kernel
theorem dX12_reads_53 : decode cX12_reads 53 = .ok (.iload_n 2, 1) := by decide +kernel
theorem dX12_reads_54 : decode cX12_reads 54 = .ok (.bipush (-4), 2) := by decide +kernel
theorem dX12_reads_56 : decode cX12_reads 56 = .ok (.if_icmp .eq 17, 3) := by decide +kernel
theorem dX12_reads_59 : decode cX12_reads 59 = .ok (.aload_n 0, 1) := by decide +kernel
theorem dX12_reads_60 : decode cX12_reads 60 = .ok (.iload_n 1, 1) := by decide +kernel
theorem dX12_reads_61 : decode cX12_reads 61 = .ok (.iconst 1, 1) := by decide +kernel
theorem dX12_reads_62 : decode cX12_reads 62 = .ok (.iadd, 1) := by decide +kernel
theorem dX12_reads_63 : decode cX12_reads 63 = .ok (.iload_n 2, 1) := by decide +kernel
theorem dX12_reads_64 : decode cX12_reads 64 = .ok (.iadd, 1) := by decide +kernel
theorem dX12_reads_65 : decode cX12_reads 65 = .ok (.invokevirtual 65, 3) := by decide +kernel
theorem dX12_reads_68 : decode cX12_reads 68 = .ok (.bipush 59, 2) := by decide +kernel
theorem dX12_reads_70 : decode cX12_reads 70 = .ok (.if_icmp .eq 5, 3) := by decide +kernel
theorem dX12_reads_73 : decode cX12_reads 73 = .ok (.iload_n 1, 1) := by decide +kernel
theorem dX12_reads_74 : decode cX12_reads 74 = .ok (.ireturn, 1) := by decide +kernel
theorem dX12_reads_75 : decode cX12_reads 75 = .ok (.iload_n 1, 1) := by decide +kernel
