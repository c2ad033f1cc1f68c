theorem dX12_reads_76 : decode cX12_reads 76 = .ok (.iload_n 2, 1) := by decide +kernel
theorem dX12_reads_77 : decode cX12_reads 77 = .ok (.iconst 2, 1) := by decide +kernel
theorem dX12_reads_78 : decode cX12_reads 78 = .ok (.iadd, 1) := by decide +kernel
theorem dX12_reads_79 : decode cX12_reads 79 = .ok (.iadd, 1) := by decide +kernel
theorem dX12_reads_80 : decode cX12_reads 80 = .ok (.istore_n 1, 1) := by decide +kernel
theorem dX12_reads_81 : decode cX12_reads 81 = .ok (.goto (-42), 3) := by decide +kernel
theorem dX12_reads_84 : decode cX12_reads 84 = .ok (.bipush (-4), 2) := by decide +kernel
theorem dX12_reads_86 : decode cX12_reads 86 = .ok (.ireturn, 1) := by decide +kernel
theorem dX12_fault_0 : decode cX12_fault 0 = .ok (.aload_n 0, 1) := by decide +kernel
theorem dX12_fault_1 : decode cX12_fault 1 = .ok (.invokevirtual 101, 3) := by decide +kernel
theorem dX12_fault_4 : decode cX12_fault 4 = .ok (.ireturn, 1) := by decide +kernel
theorem dX12_lay_0 : decode cX12_lay 0 = .ok (.aload_n 0, 1) := by decide +kernel
theorem dX12_lay_1 : decode cX12_lay 1 = .ok (.invokevirtual 101, 3) := by decide +kernel
theorem dX12_lay_4 : decode cX12_lay 4 = .ok (.bipush (-4), 2) := by decide +kernel
theorem dX12_lay_6 : decode cX12_lay 6 = .ok (.if_icmp .ne 21, 3) := by decide +kernel
theorem dX12_lay_9 : decode cX12_lay 9 = .ok (.aload_n 0, 1) := by decide +kernel
theorem dX12_lay_10 : decode cX12_lay 10 = .ok (.getfield 62, 3) := by decide +kernel
theorem dX12_lay_13 : decode cX12_lay 13 = .ok (.ifCond .eq 14, 3) := by decide +kernel
theorem dX12_lay_16 : decode cX12_lay 16 = .ok (.aload_n 0, 1) := by decide +kernel
theorem dX12_lay_17 : decode cX12_lay 17 = .ok (.getfield 26, 3) := by decide +kernel
theorem dX12_lay_20 : decode cX12_lay 20 = .ok (.sipush 141, 3) := by decide +kernel
theorem dX12_lay_23 : decode cX12_lay 23 = .ok (.iaload, 1) := by decide +kernel
theorem dX12_lay_24 : decode cX12_lay 24 = .ok (.ifCond .ne 6, 3) := by decide +kernel
theorem dX12_lay_27 : decode cX12_lay 27 = .ok (.bipush (-2), 2) := by decide +kernel
theorem dX12_lay_29 : decode cX12_lay 29 = .ok (.ireturn, 1) := by decide +kernel
theorem dX12_lay_30 : decode cX12_lay 30 = .ok (.aload_n 0, 1) := by decide +kernel
theorem dX12_lay_31 : decode cX12_lay 31 = .ok (.aload_n 0, 1) := by decide +kernel
theorem dX12_lay_32 : decode cX12_lay 32 = .ok (.getfield 72, 3) := by decide +kernel
theorem dX12_lay_35 : decode cX12_lay 35 = .ok (.putfield 44, 3) := by decide +kernel
theorem dX12_lay_38 : decode cX12_lay 38 = .ok (.aload_n 0, 1) := by decide +kernel
theorem dX12_lay_39 : decode cX12_lay 39 = .ok (.aload_n 0, 1) := by decide +kernel
theorem dX12_lay_40 : decode cX12_lay 40 = .ok (.getfield 75, 3) := by decide +kernel
theorem dX12_lay_43 : decode cX12_lay 43 = .ok (.putfield 47, 3) := by decide +kernel
theorem dX12_lay_46 : decode cX12_lay 46 = .ok (.iconst 0, 1) := by decide +kernel
theorem dX12_lay_47 : decode cX12_lay 47 = .ok (.istore_n 1, 1) := by decide +kernel
theorem dX12_lay_48 : decode cX12_lay 48 = .ok (.iload_n 1, 1) := by decide +kernel
theorem dX12_lay_49 : decode cX12_lay 49 = .ok (.sipush 145, 3) := by decide +kernel
theorem dX12_lay_52 : decode cX12_lay 52 = .ok (.if_icmp .ge 21, 3) := by decide +kernel
theorem dX12_lay_55 : decode cX12_lay 55 = .ok (.aload_n 0, 1) := by decide +kernel
theorem dX12_lay_56 : decode cX12_lay 56 = .ok (.getfield 7, 3) := by decide +kernel
theorem dX12_lay_59 : decode cX12_lay 59 = .ok (.iload_n 1, 1) := by decide +kernel
theorem dX12_lay_60 : decode cX12_lay 60 = .ok (.aload_n 0, 1) := by decide +kernel
theorem dX12_lay_61 : decode cX12_lay 61 = .ok (.getfield 26, 3) := by decide +kernel
theorem dX12_lay_64 : decode cX12_lay 64 = .ok (.iload_n 1, 1) := by decide +kernel
theorem dX12_lay_65 : decode cX12_lay 65 = .ok (.iaload, 1) := by decide +kernel
theorem dX12_lay_66 : decode cX12_lay 66 = .ok (.iastore, 1) := by decide +kernel
theorem dX12_lay_67 : decode cX12_lay 67 = .ok (.iinc 1 1, 3) := by decide +kernel
theorem dX12_lay_70 : decode cX12_lay 70 = .ok (.goto (-22), 3) := by decide +kernel
theorem dX12_lay_73 : decode cX12_lay 73 = .ok (.aload_n 0, 1) := by decide +kernel
theorem dX12_lay_74 : decode cX12_lay 74 = .ok (.iconst 0, 1) := by decide +kernel
theorem dX12_lay_75 : decode cX12_lay 75 = .ok (.putfield 105, 3) := by decide +kernel
theorem dX12_lay_78 : decode cX12_lay 78 = .ok (.aload_n 0, 1) := by decide +kernel
theorem dX12_lay_79 : decode cX12_lay 79 = .ok (.iconst 2, 1) := by decide +kernel
theorem dX12_lay_80 : decode cX12_lay 80 = .ok (.putfield 19, 3) := by decide +kernel
theorem dX12_lay_83 : decode cX12_lay 83 = .ok (.aload_n 0, 1) := by decide +kernel
theorem dX12_lay_84 : decode cX12_lay 84 = .ok (.iconst 0, 1) := by decide +kernel
theorem dX12_lay_85 : decode cX12_lay 85 = .ok (.putfield 108, 3) := by decide +kernel
theorem dX12_lay_88 : decode cX12_lay 88 = .ok (.aload_n 0, 1) := by decide +kernel
theorem dX12_lay_89 : decode cX12_lay 89 = .ok (.iconst 0, 1) := by decide +kernel
theorem dX12_lay_90 : decode cX12_lay 90 = .ok (.putfield 111, 3) := by decide +kernel
theorem dX12_lay_93 : decode cX12_lay 93 = .ok (.aload_n 0, 1) := by decide +kernel
theorem dX12_lay_94 : decode cX12_lay 94 = .ok (.invokevirtual 114, 3) := by decide +kernel
theorem dX12_lay_97 : decode cX12_lay 97 = .ok (.ireturn, 1) := by decide +kernel
theorem dX12_edges_0 : decode cX12_edges 0 = .ok (.iconst 0, 1) := by decide +kernel
theorem dX12_edges_1 : decode cX12_edges 1 = .ok (.istore_n 1, 1) := by decide +kernel
theorem dX12_edges_2 : decode cX12_edges 2 = .ok (.iconst 0, 1) := by decide +kernel
theorem dX12_edges_3 : decode cX12_edges 3 = .ok (.istore_n 2, 1) := by decide +kernel
theorem dX12_edges_4 : decode cX12_edges 4 = .ok (.iload_n 2, 1) := by decide +kernel
theorem dX12_edges_5 : decode cX12_edges 5 = .ok (.bipush 121, 2) := by decide +kernel
theorem dX12_edges_7 : decode cX12_edges 7 = .ok (.if_icmp .ge 18, 3) := by decide +kernel
theorem dX12_edges_10 : decode cX12_edges 10 = .ok (.iload_n 1, 1) := by decide +kernel
theorem dX12_edges_11 : decode cX12_edges 11 = .ok (.aload_n 0, 1) := by decide +kernel
theorem dX12_edges_12 : decode cX12_edges 12 = .ok (.getfield 7, 3) := by decide +kernel
theorem dX12_edges_15 : decode cX12_edges 15 = .ok (.iload_n 2, 1) := by decide +kernel
theorem dX12_edges_16 : decode cX12_edges 16 = .ok (.iaload, 1) := by decide +kernel
theorem dX12_edges_17 : decode cX12_edges 17 = .ok (.iadd, 1) := by decide +kernel
theorem dX12_edges_18 : decode cX12_edges 18 = .ok (.istore_n 1, 1) := by decide +kernel
theorem dX12_edges_19 : decode cX12_edges 19 = .ok (.iinc 2 1, 3) := by decide +kernel
theorem dX12_edges_22 : decode cX12_edges 22 = .ok (.goto (-18), 3) := by decide +kernel
theorem dX12_edges_25 : decode cX12_edges 25 = .ok (.iload_n 1, 1) := by decide +kernel
theorem dX12_edges_26 : decode cX12_edges 26 = .ok (.ireturn, 1) := by decide +kernel
theorem dX12_remembers_0 : decode cX12_remembers 0 = .ok (.iconst 0, 1) := by decide +kernel
theorem dX12_remembers_1 : decode cX12_remembers 1 = .ok (.istore_n 1, 1) := by decide +kernel
theorem dX12_remembers_2 : decode cX12_remembers 2 = .ok (.iload_n 1, 1) := by decide +kernel
theorem dX12_remembers_3 : decode cX12_remembers 3 = .ok (.sipush 145, 3) := by decide +kernel
theorem dX12_remembers_6 : decode cX12_remembers 6 = .ok (.if_icmp .ge 30, 3) := by decide +kernel
theorem dX12_remembers_9 : decode cX12_remembers 9 = .ok (.aload_n 0, 1) := by decide +kernel
theorem dX12_remembers_10 : decode cX12_remembers 10 = .ok (.getfield 13, 3) := by decide +kernel
theorem dX12_remembers_13 : decode cX12_remembers 13 = .ok (.sipush 145, 3) := by decide +kernel
theorem dX12_remembers_16 : decode cX12_remembers 16 = .ok (.aload_n 0, 1) := by decide +kernel
theorem dX12_remembers_17 : decode cX12_remembers 17 = .ok (.getfield 117, 3) := by decide +kernel
theorem dX12_remembers_20 : decode cX12_remembers 20 = .ok (.imul, 1) := by decide +kernel
theorem dX12_remembers_21 : decode cX12_remembers 21 = .ok (.iload_n 1, 1) := by decide +kernel
theorem dX12_remembers_22 : decode cX12_remembers 22 = .ok (.iadd, 1) := by decide +kernel
theorem dX12_remembers_23 : decode cX12_remembers 23 = .ok (.aload_n 0, 1) := by decide +kernel
theorem dX12_remembers_24 : decode cX12_remembers 24 = .ok (.getfield 7, 3) := by decide +kernel
theorem dX12_remembers_27 : decode cX12_remembers 27 = .ok (.iload_n 1, 1) := by decide +kernel
theorem dX12_remembers_28 : decode cX12_remembers 28 = .ok (.iaload, 1) := by decide +kernel
theorem dX12_remembers_29 : decode cX12_remembers 29 = .ok (.iastore, 1) := by decide +kernel
theorem dX12_remembers_30 : decode cX12_remembers 30 = .ok (.iinc 1 1, 3) := by decide +kernel
theorem dX12_remembers_33 : decode cX12_remembers 33 = .ok (.goto (-31), 3) := by decide +kernel
theorem dX12_remembers_36 : decode cX12_remembers 36 = .ok (.aload_n 0, 1) := by decide +kernel
theorem dX12_remembers_37 : decode cX12_remembers 37 = .ok (.aload_n 0, 1) := by decide +kernel
theorem dX12_remembers_38 : decode cX12_remembers 38 = .ok (.getfield 117, 3) := by decide +kernel
theorem dX12_remembers_41 : decode cX12_remembers 41 = .ok (.iconst 1, 1) := by decide +kernel
theorem dX12_remembers_42 : decode cX12_remembers 42 = .ok (.iadd, 1) := by decide +kernel
theorem dX12_remembers_43 : decode cX12_remembers 43 = .ok (.bipush 6, 2) := by decide +kernel
theorem dX12_remembers_45 : decode cX12_remembers 45 = .ok (.irem, 1) := by decide +kernel
theorem dX12_remembers_46 : decode cX12_remembers 46 = .ok (.putfield 117, 3) := by decide +kernel
theorem dX12_remembers_49 : decode cX12_remembers 49 = .ok (.aload_n 0, 1) := by decide +kernel
theorem dX12_remembers_50 : decode cX12_remembers 50 = .ok (.dup, 1) := by decide +kernel
theorem dX12_remembers_51 : decode cX12_remembers 51 = .ok (.getfield 105, 3) := by decide +kernel
theorem dX12_remembers_54 : decode cX12_remembers 54 = .ok (.aload_n 0, 1) := by decide +kernel
theorem dX12_remembers_55 : decode cX12_remembers 55 = .ok (.getfield 105, 3) := by decide +kernel
theorem dX12_remembers_58 : decode cX12_remembers 58 = .ok (.bipush 6, 2) := by decide +kernel
theorem dX12_remembers_60 : decode cX12_remembers 60 = .ok (.if_icmp .ge 7, 3) := by decide +kernel
theorem dX12_remembers_63 : decode cX12_remembers 63 = .ok (.iconst 1, 1) := by decide +kernel
theorem dX12_remembers_64 : decode cX12_remembers 64 = .ok (.goto 4, 3) := by decide +kernel
theorem dX12_remembers_67 : decode cX12_remembers 67 = .ok (.iconst 0, 1) := by decide +kernel
theorem dX12_remembers_68 : decode cX12_remembers 68 = .ok (.iadd, 1) := by decide +kernel
theorem dX12_remembers_69 : decode cX12_remembers 69 = .ok (.putfield 105, 3) := by decide +kernel
theorem dX12_remembers_72 : decode cX12_remembers 72 = .ok (.return_, 1) := by decide +kernel
theorem dX12_undo_0 : decode cX12_undo 0 = .ok (.aload_n 0, 1) := by decide +kernel
theorem dX12_undo_1 : decode cX12_undo 1 = .ok (.getfield 105, 3) := by decide +kernel
theorem dX12_undo_4 : decode cX12_undo 4 = .ok (.ifCond .ne 6, 3) := by decide +kernel
theorem dX12_undo_7 : decode cX12_undo 7 = .ok (.bipush (-2), 2) := by decide +kernel
theorem dX12_undo_9 : decode cX12_undo 9 = .ok (.ireturn, 1) := by decide +kernel
theorem dX12_undo_10 : decode cX12_undo 10 = .ok (.aload_n 0, 1) := by decide +kernel
theorem dX12_undo_11 : decode cX12_undo 11 = .ok (.aload_n 0, 1) := by decide +kernel
theorem dX12_undo_12 : decode cX12_undo 12 = .ok (.getfield 117, 3) := by decide +kernel
theorem dX12_undo_15 : decode cX12_undo 15 = .ok (.bipush 6, 2) := by decide +kernel
theorem dX12_undo_17 : decode cX12_undo 17 = .ok (.iadd, 1) := by decide +kernel
theorem dX12_undo_18 : decode cX12_undo 18 = .ok (.iconst 1, 1) := by decide +kernel
theorem dX12_undo_19 : decode cX12_undo 19 = .ok (.isub, 1) := by decide +kernel
theorem dX12_undo_20 : decode cX12_undo 20 = .ok (.bipush 6, 2) := by decide +kernel
theorem dX12_undo_22 : decode cX12_undo 22 = .ok (.irem, 1) := by decide +kernel
theorem dX12_undo_23 : decode cX12_undo 23 = .ok (.putfield 117, 3) := by decide +kernel
theorem dX12_undo_26 : decode cX12_undo 26 = .ok (.aload_n 0, 1) := by decide +kernel
theorem dX12_undo_27 : decode cX12_undo 27 = .ok (.dup, 1) := by decide +kernel
theorem dX12_undo_28 : decode cX12_undo 28 = .ok (.getfield 105, 3) := by decide +kernel
theorem dX12_undo_31 : decode cX12_undo 31 = .ok (.iconst 1, 1) := by decide +kernel
theorem dX12_undo_32 : decode cX12_undo 32 = .ok (.isub, 1) := by decide +kernel
theorem dX12_undo_33 : decode cX12_undo 33 = .ok (.putfield 105, 3) := by decide +kernel
theorem dX12_undo_36 : decode cX12_undo 36 = .ok (.iconst 0, 1) := by decide +kernel
theorem dX12_undo_37 : decode cX12_undo 37 = .ok (.istore_n 1, 1) := by decide +kernel
theorem dX12_undo_38 : decode cX12_undo 38 = .ok (.iload_n 1, 1) := by decide +kernel
theorem dX12_undo_39 : decode cX12_undo 39 = .ok (.sipush 145, 3) := by decide +kernel
theorem dX12_undo_42 : decode cX12_undo 42 = .ok (.if_icmp .ge 30, 3) := by decide +kernel
theorem dX12_undo_45 : decode cX12_undo 45 = .ok (.aload_n 0, 1) := by decide +kernel
theorem dX12_undo_46 : decode cX12_undo 46 = .ok (.getfield 7, 3) := by decide +kernel
theorem dX12_undo_49 : decode cX12_undo 49 = .ok (.iload_n 1, 1) := by decide +kernel
theorem dX12_undo_50 : decode cX12_undo 50 = .ok (.aload_n 0, 1) := by decide +kernel
theorem dX12_undo_51 : decode cX12_undo 51 = .ok (.getfield 13, 3) := by decide +kernel
theorem dX12_undo_54 : decode cX12_undo 54 = .ok (.sipush 145, 3) := by decide +kernel
theorem dX12_undo_57 : decode cX12_undo 57 = .ok (.aload_n 0, 1) := by decide +kernel
theorem dX12_undo_58 : decode cX12_undo 58 = .ok (.getfield 117, 3) := by decide +kernel
theorem dX12_undo_61 : decode cX12_undo 61 = .ok (.imul, 1) := by decide +kernel
theorem dX12_undo_62 : decode cX12_undo 62 = .ok (.iload_n 1, 1) := by decide +kernel
theorem dX12_undo_63 : decode cX12_undo 63 = .ok (.iadd, 1) := by decide +kernel
theorem dX12_undo_64 : decode cX12_undo 64 = .ok (.iaload, 1) := by decide +kernel
theorem dX12_undo_65 : decode cX12_undo 65 = .ok (.iastore, 1) := by decide +kernel
theorem dX12_undo_66 : decode cX12_undo 66 = .ok (.iinc 1 1, 3) := by decide +kernel
theorem dX12_undo_69 : decode cX12_undo 69 = .ok (.goto (-31), 3) := by decide +kernel
theorem dX12_undo_72 : decode cX12_undo 72 = .ok (.aload_n 0, 1) := by decide +kernel
theorem dX12_undo_73 : decode cX12_undo 73 = .ok (.getfield 105, 3) := by decide +kernel
theorem dX12_undo_76 : decode cX12_undo 76 = .ok (.ireturn, 1) := by decide +kernel
theorem dX12_isCell_0 : decode cX12_isCell 0 = .ok (.iload_n 1, 1) := by decide +kernel
theorem dX12_isCell_1 : decode cX12_isCell 1 = .ok (.iconst 0, 1) := by decide +kernel
theorem dX12_isCell_2 : decode cX12_isCell 2 = .ok (.aload_n 0, 1) := by decide +kernel
theorem dX12_isCell_3 : decode cX12_isCell 3 = .ok (.getfield 44, 3) := by decide +kernel
theorem dX12_isCell_6 : decode cX12_isCell 6 = .ok (.iconst 1, 1) := by decide +kernel
theorem dX12_isCell_7 : decode cX12_isCell 7 = .ok (.isub, 1) := by decide +kernel
theorem dX12_isCell_8 : decode cX12_isCell 8 = .ok (.invokestatic 58, 3) := by decide +kernel
theorem dX12_isCell_11 : decode cX12_isCell 11 = .ok (.ifCond .eq 21, 3) := by decide +kernel
theorem dX12_isCell_14 : decode cX12_isCell 14 = .ok (.iload_n 2, 1) := by decide +kernel
theorem dX12_isCell_15 : decode cX12_isCell 15 = .ok (.iconst 0, 1) := by decide +kernel
theorem dX12_isCell_16 : decode cX12_isCell 16 = .ok (.aload_n 0, 1) := by decide +kernel
theorem dX12_isCell_17 : decode cX12_isCell 17 = .ok (.getfield 47, 3) := by decide +kernel
theorem dX12_isCell_20 : decode cX12_isCell 20 = .ok (.iconst 1, 1) := by decide +kernel
theorem dX12_isCell_21 : decode cX12_isCell 21 = .ok (.isub, 1) := by decide +kernel
theorem dX12_isCell_22 : decode cX12_isCell 22 = .ok (.invokestatic 58, 3) := by decide +kernel
theorem dX12_isCell_25 : decode cX12_isCell 25 = .ok (.ifCond .eq 7, 3) := by decide +kernel
theorem dX12_isCell_28 : decode cX12_isCell 28 = .ok (.iconst 1, 1) := by decide +kernel
theorem dX12_isCell_29 : decode cX12_isCell 29 = .ok (.goto 4, 3) := by decide +kernel
theorem dX12_isCell_32 : decode cX12_isCell 32 = .ok (.iconst 0, 1) := by decide +kernel
theorem dX12_isCell_33 : decode cX12_isCell 33 = .ok (.ireturn, 1) := by decide +kernel
theorem dX12_at_0 : decode cX12_at 0 = .ok (.bipush 11, 2) := by decide +kernel
theorem dX12_at_2 : decode cX12_at 2 = .ok (.iload_n 1, 1) := by decide +kernel
theorem dX12_at_3 : decode cX12_at 3 = .ok (.imul, 1) := by decide +kernel
theorem dX12_at_4 : decode cX12_at 4 = .ok (.iload_n 0, 1) := by decide +kernel
theorem dX12_at_5 : decode cX12_at 5 = .ok (.iadd, 1) := by decide +kernel
theorem dX12_at_6 : decode cX12_at 6 = .ok (.ireturn, 1) := by decide +kernel
theorem dX12_edge_0 : decode cX12_edge 0 = .ok (.aload_n 0, 1) := by decide +kernel
theorem dX12_edge_1 : decode cX12_edge 1 = .ok (.iload_n 1, 1) := by decide +kernel
theorem dX12_edge_2 : decode cX12_edge 2 = .ok (.iload_n 2, 1) := by decide +kernel
theorem dX12_edge_3 : decode cX12_edge 3 = .ok (.invokevirtual 120, 3) := by decide +kernel
theorem dX12_edge_6 : decode cX12_edge 6 = .ok (.ifCond .eq 12, 3) := by decide +kernel
theorem dX12_edge_9 : decode cX12_edge 9 = .ok (.iload_n 3, 1) := by decide +kernel
theorem dX12_edge_10 : decode cX12_edge 10 = .ok (.iconst 0, 1) := by decide +kernel
theorem dX12_edge_11 : decode cX12_edge 11 = .ok (.iconst 1, 1) := by decide +kernel
theorem dX12_edge_12 : decode cX12_edge 12 = .ok (.invokestatic 58, 3) := by decide +kernel
theorem dX12_edge_15 : decode cX12_edge 15 = .ok (.ifCond .ne 5, 3) := by decide +kernel
theorem dX12_edge_18 : decode cX12_edge 18 = .ok (.iconst (-1), 1) := by decide +kernel
theorem dX12_edge_19 : decode cX12_edge 19 = .ok (.ireturn, 1) := by decide +kernel
theorem dX12_edge_20 : decode cX12_edge 20 = .ok (.aload_n 0, 1) := by decide +kernel
theorem dX12_edge_21 : decode cX12_edge 21 = .ok (.getfield 7, 3) := by decide +kernel
theorem dX12_edge_24 : decode cX12_edge 24 = .ok (.iload_n 1, 1) := by decide +kernel
theorem dX12_edge_25 : decode cX12_edge 25 = .ok (.iload_n 2, 1) := by decide +kernel
theorem dX12_edge_26 : decode cX12_edge 26 = .ok (.invokestatic 50, 3) := by decide +kernel
theorem dX12_edge_29 : decode cX12_edge 29 = .ok (.iaload, 1) := by decide +kernel
theorem dX12_edge_30 : decode cX12_edge 30 = .ok (.iload_n 3, 1) := by decide +kernel
theorem dX12_edge_31 : decode cX12_edge 31 = .ok (.if_icmp .ne 6, 3) := by decide +kernel
theorem dX12_edge_34 : decode cX12_edge 34 = .ok (.bipush (-2), 2) := by decide +kernel
theorem dX12_edge_36 : decode cX12_edge 36 = .ok (.ireturn, 1) := by decide +kernel
theorem dX12_edge_37 : decode cX12_edge 37 = .ok (.aload_n 0, 1) := by decide +kernel
theorem dX12_edge_38 : decode cX12_edge 38 = .ok (.invokevirtual 124, 3) := by decide +kernel
theorem dX12_edge_41 : decode cX12_edge 41 = .ok (.aload_n 0, 1) := by decide +kernel
theorem dX12_edge_42 : decode cX12_edge 42 = .ok (.getfield 7, 3) := by decide +kernel
theorem dX12_edge_45 : decode cX12_edge 45 = .ok (.iload_n 1, 1) := by decide +kernel
theorem dX12_edge_46 : decode cX12_edge 46 = .ok (.iload_n 2, 1) := by decide +kernel
theorem dX12_edge_47 : decode cX12_edge 47 = .ok (.invokestatic 50, 3) := by decide +kernel
theorem dX12_edge_50 : decode cX12_edge 50 = .ok (.iload_n 3, 1) := by decide +kernel
theorem dX12_edge_51 : decode cX12_edge 51 = .ok (.iastore, 1) := by decide +kernel
theorem dX12_edge_52 : decode cX12_edge 52 = .ok (.aload_n 0, 1) := by decide +kernel
theorem dX12_edge_53 : decode cX12_edge 53 = .ok (.invokevirtual 114, 3) := by decide +kernel
theorem dX12_edge_56 : decode cX12_edge 56 = .ok (.ireturn, 1) := by decide +kernel
theorem dX12_dot_0 : decode cX12_dot 0 = .ok (.iload_n 1, 1) := by decide +kernel
theorem dX12_dot_1 : decode cX12_dot 1 = .ok (.bipush (-5), 2) := by decide +kernel
theorem dX12_dot_3 : decode cX12_dot 3 = .ok (.iconst 5, 1) := by decide +kernel
theorem dX12_dot_4 : decode cX12_dot 4 = .ok (.invokestatic 58, 3) := by decide +kernel
theorem dX12_dot_7 : decode cX12_dot 7 = .ok (.ifCond .eq 13, 3) := by decide +kernel
theorem dX12_dot_10 : decode cX12_dot 10 = .ok (.iload_n 2, 1) := by decide +kernel
theorem dX12_dot_11 : decode cX12_dot 11 = .ok (.bipush (-5), 2) := by decide +kernel
theorem dX12_dot_13 : decode cX12_dot 13 = .ok (.iconst 5, 1) := by decide +kernel
theorem dX12_dot_14 : decode cX12_dot 14 = .ok (.invokestatic 58, 3) := by decide +kernel
theorem dX12_dot_17 : decode cX12_dot 17 = .ok (.ifCond .ne 5, 3) := by decide +kernel
theorem dX12_dot_20 : decode cX12_dot 20 = .ok (.iconst (-1), 1) := by decide +kernel
theorem dX12_dot_21 : decode cX12_dot 21 = .ok (.ireturn, 1) := by decide +kernel
theorem dX12_dot_22 : decode cX12_dot 22 = .ok (.aload_n 0, 1) := by decide +kernel
theorem dX12_dot_23 : decode cX12_dot 23 = .ok (.getfield 7, 3) := by decide +kernel
theorem dX12_dot_26 : decode cX12_dot 26 = .ok (.iload_n 1, 1) := by decide +kernel
theorem dX12_dot_27 : decode cX12_dot 27 = .ok (.iload_n 2, 1) := by decide +kernel
theorem dX12_dot_28 : decode cX12_dot 28 = .ok (.invokestatic 81, 3) := by decide +kernel
theorem dX12_dot_31 : decode cX12_dot 31 = .ok (.bipush (-4), 2) := by decide +kernel
theorem dX12_dot_33 : decode cX12_dot 33 = .ok (.if_icmp .eq 6, 3) := by decide +kernel
theorem dX12_dot_36 : decode cX12_dot 36 = .ok (.bipush (-2), 2) := by decide +kernel
theorem dX12_dot_38 : decode cX12_dot 38 = .ok (.ireturn, 1) := by decide +kernel
theorem dX12_dot_39 : decode cX12_dot 39 = .ok (.aload_n 0, 1) := by decide +kernel
theorem dX12_dot_40 : decode cX12_dot 40 = .ok (.getfield 7, 3) := by decide +kernel
theorem dX12_dot_43 : decode cX12_dot 43 = .ok (.sipush 141, 3) := by decide +kernel
theorem dX12_dot_46 : decode cX12_dot 46 = .ok (.iaload, 1) := by decide +kernel
theorem dX12_dot_47 : decode cX12_dot 47 = .ok (.bipush 10, 2) := by decide +kernel
theorem dX12_dot_49 : decode cX12_dot 49 = .ok (.if_icmp .ne 6, 3) := by decide +kernel
theorem dX12_dot_52 : decode cX12_dot 52 = .ok (.bipush (-3), 2) := by decide +kernel
theorem dX12_dot_54 : decode cX12_dot 54 = .ok (.ireturn, 1) := by decide +kernel
theorem dX12_dot_55 : decode cX12_dot 55 = .ok (.aload_n 0, 1) := by decide +kernel
theorem dX12_dot_56 : decode cX12_dot 56 = .ok (.invokevirtual 124, 3) := by decide +kernel
theorem dX12_dot_59 : decode cX12_dot 59 = .ok (.aload_n 0, 1) := by decide +kernel
theorem dX12_dot_60 : decode cX12_dot 60 = .ok (.getfield 7, 3) := by decide +kernel
theorem dX12_dot_63 : decode cX12_dot 63 = .ok (.iload_n 1, 1) := by decide +kernel
theorem dX12_dot_64 : decode cX12_dot 64 = .ok (.iload_n 2, 1) := by decide +kernel
theorem dX12_dot_65 : decode cX12_dot 65 = .ok (.invokestatic 54, 3) := by decide +kernel
theorem dX12_dot_68 : decode cX12_dot 68 = .ok (.aload_n 0, 1) := by decide +kernel
theorem dX12_dot_69 : decode cX12_dot 69 = .ok (.getfield 7, 3) := by decide +kernel
theorem dX12_dot_72 : decode cX12_dot 72 = .ok (.sipush 141, 3) := by decide +kernel
theorem dX12_dot_75 : decode cX12_dot 75 = .ok (.iaload, 1) := by decide +kernel
theorem dX12_dot_76 : decode cX12_dot 76 = .ok (.iconst 1, 1) := by decide +kernel
theorem dX12_dot_77 : decode cX12_dot 77 = .ok (.isub, 1) := by decide +kernel
theorem dX12_dot_78 : decode cX12_dot 78 = .ok (.ireturn, 1) := by decide +kernel
theorem dX12_isDot_0 : decode cX12_isDot 0 = .ok (.iload_n 1, 1) := by decide +kernel
theorem dX12_isDot_1 : decode cX12_isDot 1 = .ok (.iconst 0, 1) := by decide +kernel
theorem dX12_isDot_2 : decode cX12_isDot 2 = .ok (.aload_n 0, 1) := by decide +kernel
theorem dX12_isDot_3 : decode cX12_isDot 3 = .ok (.getfield 7, 3) := by decide +kernel
theorem dX12_isDot_6 : decode cX12_isDot 6 = .ok (.sipush 141, 3) := by decide +kernel
theorem dX12_isDot_9 : decode cX12_isDot 9 = .ok (.iaload, 1) := by decide +kernel
theorem dX12_isDot_10 : decode cX12_isDot 10 = .ok (.iconst 1, 1) := by decide +kernel
theorem dX12_isDot_11 : decode cX12_isDot 11 = .ok (.isub, 1) := by decide +kernel
theorem dX12_isDot_12 : decode cX12_isDot 12 = .ok (.invokestatic 58, 3) := by decide +kernel
theorem dX12_isDot_15 : decode cX12_isDot 15 = .ok (.ireturn, 1) := by decide +kernel
theorem dX12_drop_0 : decode cX12_drop 0 = .ok (.aload_n 0, 1) := by decide +kernel
theorem dX12_drop_1 : decode cX12_drop 1 = .ok (.iload_n 1, 1) := by decide +kernel
theorem dX12_drop_2 : decode cX12_drop 2 = .ok (.invokevirtual 127, 3) := by decide +kernel
theorem dX12_drop_5 : decode cX12_drop 5 = .ok (.ifCond .ne 5, 3) := by decide +kernel
theorem dX12_drop_8 : decode cX12_drop 8 = .ok (.iconst (-1), 1) := by decide +kernel
theorem dX12_drop_9 : decode cX12_drop 9 = .ok (.ireturn, 1) := by decide +kernel
theorem dX12_drop_10 : decode cX12_drop 10 = .ok (.aload_n 0, 1) := by decide +kernel
theorem dX12_drop_11 : decode cX12_drop 11 = .ok (.getfield 7, 3) := by decide +kernel
theorem dX12_drop_14 : decode cX12_drop 14 = .ok (.sipush 141, 3) := by decide +kernel
theorem dX12_drop_17 : decode cX12_drop 17 = .ok (.iaload, 1) := by decide +kernel
theorem dX12_drop_18 : decode cX12_drop 18 = .ok (.iconst 1, 1) := by decide +kernel
theorem dX12_drop_19 : decode cX12_drop 19 = .ok (.if_icmp .ne 6, 3) := by decide +kernel
theorem dX12_drop_22 : decode cX12_drop 22 = .ok (.bipush (-2), 2) := by decide +kernel
theorem dX12_drop_24 : decode cX12_drop 24 = .ok (.ireturn, 1) := by decide +kernel
theorem dX12_drop_25 : decode cX12_drop 25 = .ok (.aload_n 0, 1) := by decide +kernel
theorem dX12_drop_26 : decode cX12_drop 26 = .ok (.invokevirtual 124, 3) := by decide +kernel
theorem dX12_drop_29 : decode cX12_drop 29 = .ok (.aload_n 0, 1) := by decide +kernel
theorem dX12_drop_30 : decode cX12_drop 30 = .ok (.getfield 7, 3) := by decide +kernel
theorem dX12_drop_33 : decode cX12_drop 33 = .ok (.sipush 141, 3) := by decide +kernel
theorem dX12_drop_36 : decode cX12_drop 36 = .ok (.dup2, 1) := by decide +kernel
theorem dX12_drop_37 : decode cX12_drop 37 = .ok (.iaload, 1) := by decide +kernel
theorem dX12_drop_38 : decode cX12_drop 38 = .ok (.iconst 1, 1) := by decide +kernel
theorem dX12_drop_39 : decode cX12_drop 39 = .ok (.isub, 1) := by decide +kernel
theorem dX12_drop_40 : decode cX12_drop 40 = .ok (.iastore, 1) := by decide +kernel
theorem dX12_drop_41 : decode cX12_drop 41 = .ok (.iload_n 1, 1) := by decide +kernel
theorem dX12_drop_42 : decode cX12_drop 42 = .ok (.istore_n 2, 1) := by decide +kernel
theorem dX12_drop_43 : decode cX12_drop 43 = .ok (.iload_n 2, 1) := by decide +kernel
theorem dX12_drop_44 : decode cX12_drop 44 = .ok (.aload_n 0, 1) := by decide +kernel
theorem dX12_drop_45 : decode cX12_drop 45 = .ok (.getfield 7, 3) := by decide +kernel
theorem dX12_drop_48 : decode cX12_drop 48 = .ok (.sipush 141, 3) := by decide +kernel
theorem dX12_drop_51 : decode cX12_drop 51 = .ok (.iaload, 1) := by decide +kernel
theorem dX12_drop_52 : decode cX12_drop 52 = .ok (.if_icmp .ge 51, 3) := by decide +kernel
theorem dX12_drop_55 : decode cX12_drop 55 = .ok (.aload_n 0, 1) := by decide +kernel
theorem dX12_drop_56 : decode cX12_drop 56 = .ok (.getfield 7, 3) := by decide +kernel
theorem dX12_drop_59 : decode cX12_drop 59 = .ok (.bipush 121, 2) := by decide +kernel
theorem dX12_drop_61 : decode cX12_drop 61 = .ok (.iload_n 2, 1) := by decide +kernel
theorem dX12_drop_62 : decode cX12_drop 62 = .ok (.iadd, 1) := by decide +kernel
theorem dX12_drop_63 : decode cX12_drop 63 = .ok (.aload_n 0, 1) := by decide +kernel
theorem dX12_drop_64 : decode cX12_drop 64 = .ok (.getfield 7, 3) := by decide +kernel
theorem dX12_drop_67 : decode cX12_drop 67 = .ok (.bipush 121, 2) := by decide +kernel
theorem dX12_drop_69 : decode cX12_drop 69 = .ok (.iload_n 2, 1) := by decide +kernel
theorem dX12_drop_70 : decode cX12_drop 70 = .ok (.iadd, 1) := by decide +kernel
theorem dX12_drop_71 : decode cX12_drop 71 = .ok (.iconst 1, 1) := by decide +kernel
theorem dX12_drop_72 : decode cX12_drop 72 = .ok (.iadd, 1) := by decide +kernel
theorem dX12_drop_73 : decode cX12_drop 73 = .ok (.iaload, 1) := by decide +kernel
theorem dX12_drop_74 : decode cX12_drop 74 = .ok (.iastore, 1) := by decide +kernel
theorem dX12_drop_75 : decode cX12_drop 75 = .ok (.aload_n 0, 1) := by decide +kernel
theorem dX12_drop_76 : decode cX12_drop 76 = .ok (.getfield 7, 3) := by decide +kernel
theorem dX12_drop_79 : decode cX12_drop 79 = .ok (.sipush 131, 3) := by decide +kernel
theorem dX12_drop_82 : decode cX12_drop 82 = .ok (.iload_n 2, 1) := by decide +kernel
theorem dX12_drop_83 : decode cX12_drop 83 = .ok (.iadd, 1) := by decide +kernel
theorem dX12_drop_84 : decode cX12_drop 84 = .ok (.aload_n 0, 1) := by decide +kernel
theorem dX12_drop_85 : decode cX12_drop 85 = .ok (.getfield 7, 3) := by decide +kernel
theorem dX12_drop_88 : decode cX12_drop 88 = .ok (.sipush 131, 3) := by decide +kernel
theorem dX12_drop_91 : decode cX12_drop 91 = .ok (.iload_n 2, 1) := by decide +kernel
theorem dX12_drop_92 : decode cX12_drop 92 = .ok (.iadd, 1) := by decide +kernel
theorem dX12_drop_93 : decode cX12_drop 93 = .ok (.iconst 1, 1) := by decide +kernel
theorem dX12_drop_94 : decode cX12_drop 94 = .ok (.iadd, 1) := by decide +kernel
theorem dX12_drop_95 : decode cX12_drop 95 = .ok (.iaload, 1) := by decide +kernel
theorem dX12_drop_96 : decode cX12_drop 96 = .ok (.iastore, 1) := by decide +kernel
theorem dX12_drop_97 : decode cX12_drop 97 = .ok (.iinc 2 1, 3) := by decide +kernel
theorem dX12_drop_100 : decode cX12_drop 100 = .ok (.goto (-57), 3) := by decide +kernel
theorem dX12_drop_103 : decode cX12_drop 103 = .ok (.aload_n 0, 1) := by decide +kernel
theorem dX12_drop_104 : decode cX12_drop 104 = .ok (.getfield 7, 3) := by decide +kernel
theorem dX12_drop_107 : decode cX12_drop 107 = .ok (.sipush 141, 3) := by decide +kernel
theorem dX12_drop_110 : decode cX12_drop 110 = .ok (.iaload, 1) := by decide +kernel
theorem dX12_drop_111 : decode cX12_drop 111 = .ok (.ireturn, 1) := by decide +kernel
theorem dX12_measure_0 : decode cX12_measure 0 = .ok (.iload_n 1, 1) := by decide +kernel
theorem dX12_measure_1 : decode cX12_measure 1 = .ok (.iconst 0, 1) := by decide +kernel
theorem dX12_measure_2 : decode cX12_measure 2 = .ok (.iconst 2, 1) := by decide +kernel
theorem dX12_measure_3 : decode cX12_measure 3 = .ok (.invokestatic 58, 3) := by decide +kernel
theorem dX12_measure_6 : decode cX12_measure 6 = .ok (.ifCond .eq 13, 3) := by decide +kernel
theorem dX12_measure_9 : decode cX12_measure 9 = .ok (.iload_n 2, 1) := by decide +kernel
theorem dX12_measure_10 : decode cX12_measure 10 = .ok (.iconst 1, 1) := by decide +kernel
theorem dX12_measure_11 : decode cX12_measure 11 = .ok (.bipush 99, 2) := by decide +kernel
theorem dX12_measure_13 : decode cX12_measure 13 = .ok (.invokestatic 58, 3) := by decide +kernel
theorem dX12_measure_16 : decode cX12_measure 16 = .ok (.ifCond .ne 5, 3) := by decide +kernel
theorem dX12_measure_19 : decode cX12_measure 19 = .ok (.iconst (-1), 1) := by decide +kernel
theorem dX12_measure_20 : decode cX12_measure 20 = .ok (.ireturn, 1) := by decide +kernel
theorem dX12_measure_21 : decode cX12_measure 21 = .ok (.aload_n 0, 1) := by decide +kernel
theorem dX12_measure_22 : decode cX12_measure 22 = .ok (.getfield 7, 3) := by decide +kernel
theorem dX12_measure_25 : decode cX12_measure 25 = .ok (.sipush 142, 3) := by decide +kernel
theorem dX12_measure_28 : decode cX12_measure 28 = .ok (.iaload, 1) := by decide +kernel
theorem dX12_measure_29 : decode cX12_measure 29 = .ok (.iload_n 1, 1) := by decide +kernel
theorem dX12_measure_30 : decode cX12_measure 30 = .ok (.if_icmp .ne 18, 3) := by decide +kernel
theorem dX12_measure_33 : decode cX12_measure 33 = .ok (.aload_n 0, 1) := by decide +kernel
theorem dX12_measure_34 : decode cX12_measure 34 = .ok (.getfield 7, 3) := by decide +kernel
theorem dX12_measure_37 : decode cX12_measure 37 = .ok (.sipush 143, 3) := by decide +kernel
theorem dX12_measure_40 : decode cX12_measure 40 = .ok (.iaload, 1) := by decide +kernel
theorem dX12_measure_41 : decode cX12_measure 41 = .ok (.iload_n 2, 1) := by decide +kernel
theorem dX12_measure_42 : decode cX12_measure 42 = .ok (.if_icmp .ne 6, 3) := by decide +kernel
theorem dX12_measure_45 : decode cX12_measure 45 = .ok (.bipush (-2), 2) := by decide +kernel
theorem dX12_measure_47 : decode cX12_measure 47 = .ok (.ireturn, 1) := by decide +kernel
theorem dX12_measure_48 : decode cX12_measure 48 = .ok (.aload_n 0, 1) := by decide +kernel
theorem dX12_measure_49 : decode cX12_measure 49 = .ok (.invokevirtual 124, 3) := by decide +kernel
theorem dX12_measure_52 : decode cX12_measure 52 = .ok (.bipush 100, 2) := by decide +kernel
theorem dX12_measure_54 : decode cX12_measure 54 = .ok (.aload_n 0, 1) := by decide +kernel
theorem dX12_measure_55 : decode cX12_measure 55 = .ok (.getfield 7, 3) := by decide +kernel
theorem dX12_measure_58 : decode cX12_measure 58 = .ok (.sipush 142, 3) := by decide +kernel
theorem dX12_measure_61 : decode cX12_measure 61 = .ok (.iaload, 1) := by decide +kernel
theorem dX12_measure_62 : decode cX12_measure 62 = .ok (.imul, 1) := by decide +kernel
theorem dX12_measure_63 : decode cX12_measure 63 = .ok (.aload_n 0, 1) := by decide +kernel
theorem dX12_measure_64 : decode cX12_measure 64 = .ok (.getfield 7, 3) := by decide +kernel
theorem dX12_measure_67 : decode cX12_measure 67 = .ok (.sipush 143, 3) := by decide +kernel
theorem dX12_measure_70 : decode cX12_measure 70 = .ok (.iaload, 1) := by decide +kernel
theorem dX12_measure_71 : decode cX12_measure 71 = .ok (.iadd, 1) := by decide +kernel
theorem dX12_measure_72 : decode cX12_measure 72 = .ok (.istore_n 3, 1) := by decide +kernel
theorem dX12_measure_73 : decode cX12_measure 73 = .ok (.aload_n 0, 1) := by decide +kernel
theorem dX12_measure_74 : decode cX12_measure 74 = .ok (.getfield 7, 3) := by decide +kernel
theorem dX12_measure_77 : decode cX12_measure 77 = .ok (.sipush 142, 3) := by decide +kernel
theorem dX12_measure_80 : decode cX12_measure 80 = .ok (.iload_n 1, 1) := by decide +kernel
theorem dX12_measure_81 : decode cX12_measure 81 = .ok (.iastore, 1) := by decide +kernel
theorem dX12_measure_82 : decode cX12_measure 82 = .ok (.aload_n 0, 1) := by decide +kernel
theorem dX12_measure_83 : decode cX12_measure 83 = .ok (.getfield 7, 3) := by decide +kernel
theorem dX12_measure_86 : decode cX12_measure 86 = .ok (.sipush 143, 3) := by decide +kernel
theorem dX12_measure_89 : decode cX12_measure 89 = .ok (.iload_n 2, 1) := by decide +kernel
theorem dX12_measure_90 : decode cX12_measure 90 = .ok (.iastore, 1) := by decide +kernel
theorem dX12_measure_91 : decode cX12_measure 91 = .ok (.iload_n 3, 1) := by decide +kernel
theorem dX12_measure_92 : decode cX12_measure 92 = .ok (.ireturn, 1) := by decide +kernel
theorem dX12_apart_0 : decode cX12_apart 0 = .ok (.iload_n 1, 1) := by decide +kernel
theorem dX12_apart_1 : decode cX12_apart 1 = .ok (.iload_n 3, 1) := by decide +kernel
theorem dX12_apart_2 : decode cX12_apart 2 = .ok (.if_icmp .ge 9, 3) := by decide +kernel
theorem dX12_apart_5 : decode cX12_apart 5 = .ok (.iload_n 3, 1) := by decide +kernel
theorem dX12_apart_6 : decode cX12_apart 6 = .ok (.iload_n 1, 1) := by decide +kernel
theorem dX12_apart_7 : decode cX12_apart 7 = .ok (.isub, 1) := by decide +kernel
theorem dX12_apart_8 : decode cX12_apart 8 = .ok (.goto 6, 3) := by decide +kernel
theorem dX12_apart_11 : decode cX12_apart 11 = .ok (.iload_n 1, 1) := by decide +kernel
theorem dX12_apart_12 : decode cX12_apart 12 = .ok (.iload_n 3, 1) := by decide +kernel
theorem dX12_apart_13 : decode cX12_apart 13 = .ok (.isub, 1) := by decide +kernel
theorem dX12_apart_14 : decode cX12_apart 14 = .ok (.istore 5, 2) := by decide +kernel
theorem dX12_apart_16 : decode cX12_apart 16 = .ok (.iload_n 2, 1) := by decide +kernel
theorem dX12_apart_17 : decode cX12_apart 17 = .ok (.iload 4, 2) := by decide +kernel
theorem dX12_apart_19 : decode cX12_apart 19 = .ok (.if_icmp .ge 10, 3) := by decide +kernel
theorem dX12_apart_22 : decode cX12_apart 22 = .ok (.iload 4, 2) := by decide +kernel
theorem dX12_apart_24 : decode cX12_apart 24 = .ok (.iload_n 2, 1) := by decide +kernel
theorem dX12_apart_25 : decode cX12_apart 25 = .ok (.isub, 1) := by decide +kernel
theorem dX12_apart_26 : decode cX12_apart 26 = .ok (.goto 7, 3) := by decide +kernel
theorem dX12_apart_29 : decode cX12_apart 29 = .ok (.iload_n 2, 1) := by decide +kernel
theorem dX12_apart_30 : decode cX12_apart 30 = .ok (.iload 4, 2) := by decide +kernel
theorem dX12_apart_32 : decode cX12_apart 32 = .ok (.isub, 1) := by decide +kernel
theorem dX12_apart_33 : decode cX12_apart 33 = .ok (.istore 6, 2) := by decide +kernel
theorem dX12_apart_35 : decode cX12_apart 35 = .ok (.iload 5, 2) := by decide +kernel
theorem dX12_apart_37 : decode cX12_apart 37 = .ok (.iload 6, 2) := by decide +kernel
theorem dX12_apart_39 : decode cX12_apart 39 = .ok (.if_icmp .le 8, 3) := by decide +kernel
theorem dX12_apart_42 : decode cX12_apart 42 = .ok (.iload 5, 2) := by decide +kernel
theorem dX12_apart_44 : decode cX12_apart 44 = .ok (.goto 5, 3) := by decide +kernel
theorem dX12_apart_47 : decode cX12_apart 47 = .ok (.iload 6, 2) := by decide +kernel
theorem dX12_apart_49 : decode cX12_apart 49 = .ok (.istore 7, 2) := by decide +kernel
theorem dX12_apart_51 : decode cX12_apart 51 = .ok (.aload_n 0, 1) := by decide +kernel
theorem dX12_apart_52 : decode cX12_apart 52 = .ok (.getfield 7, 3) := by decide +kernel
theorem dX12_apart_55 : decode cX12_apart 55 = .ok (.sipush 142, 3) := by decide +kernel
theorem dX12_apart_58 : decode cX12_apart 58 = .ok (.iaload, 1) := by decide +kernel
theorem dX12_apart_59 : decode cX12_apart 59 = .ok (.ifCond .ne 11, 3) := by decide +kernel
theorem dX12_apart_62 : decode cX12_apart 62 = .ok (.iload 5, 2) := by decide +kernel
theorem dX12_apart_64 : decode cX12_apart 64 = .ok (.iload 6, 2) := by decide +kernel
theorem dX12_apart_66 : decode cX12_apart 66 = .ok (.iadd, 1) := by decide +kernel
theorem dX12_apart_67 : decode cX12_apart 67 = .ok (.goto 33, 3) := by decide +kernel
theorem dX12_apart_70 : decode cX12_apart 70 = .ok (.aload_n 0, 1) := by decide +kernel
theorem dX12_apart_71 : decode cX12_apart 71 = .ok (.getfield 7, 3) := by decide +kernel
theorem dX12_apart_74 : decode cX12_apart 74 = .ok (.sipush 142, 3) := by decide +kernel
theorem dX12_apart_77 : decode cX12_apart 77 = .ok (.iaload, 1) := by decide +kernel
theorem dX12_apart_78 : decode cX12_apart 78 = .ok (.iconst 1, 1) := by decide +kernel
theorem dX12_apart_79 : decode cX12_apart 79 = .ok (.if_icmp .ne 8, 3) := by decide +kernel
theorem dX12_apart_82 : decode cX12_apart 82 = .ok (.iload 7, 2) := by decide +kernel
theorem dX12_apart_84 : decode cX12_apart 84 = .ok (.goto 16, 3) := by decide +kernel
theorem dX12_apart_87 : decode cX12_apart 87 = .ok (.iconst 3, 1) := by decide +kernel
theorem dX12_apart_88 : decode cX12_apart 88 = .ok (.iload 7, 2) := by decide +kernel
theorem dX12_apart_90 : decode cX12_apart 90 = .ok (.imul, 1) := by decide +kernel
theorem dX12_apart_91 : decode cX12_apart 91 = .ok (.iload 5, 2) := by decide +kernel
theorem dX12_apart_93 : decode cX12_apart 93 = .ok (.iadd, 1) := by decide +kernel
theorem dX12_apart_94 : decode cX12_apart 94 = .ok (.iload 6, 2) := by decide +kernel
theorem dX12_apart_96 : decode cX12_apart 96 = .ok (.iadd, 1) := by decide +kernel
theorem dX12_apart_97 : decode cX12_apart 97 = .ok (.iload 7, 2) := by decide +kernel
theorem dX12_apart_99 : decode cX12_apart 99 = .ok (.isub, 1) := by decide +kernel
theorem dX12_apart_100 : decode cX12_apart 100 = .ok (.ireturn, 1) := by decide +kernel
theorem dX12_nearestOf_0 : decode cX12_nearestOf 0 = .ok (.bipush (-4), 2) := by decide +kernel
theorem dX12_nearestOf_2 : decode cX12_nearestOf 2 = .ok (.istore_n 3, 1) := by decide +kernel
theorem dX12_nearestOf_3 : decode cX12_nearestOf 3 = .ok (.iconst 0, 1) := by decide +kernel
theorem dX12_nearestOf_4 : decode cX12_nearestOf 4 = .ok (.istore 4, 2) := by decide +kernel
theorem dX12_nearestOf_6 : decode cX12_nearestOf 6 = .ok (.iconst 0, 1) := by decide +kernel
theorem dX12_nearestOf_7 : decode cX12_nearestOf 7 = .ok (.istore 5, 2) := by decide +kernel
theorem dX12_nearestOf_9 : decode cX12_nearestOf 9 = .ok (.iload 5, 2) := by decide +kernel
theorem dX12_nearestOf_11 : decode cX12_nearestOf 11 = .ok (.bipush 121, 2) := by decide +kernel
theorem dX12_nearestOf_13 : decode cX12_nearestOf 13 = .ok (.if_icmp .ge 58, 3) := by decide +kernel
theorem dX12_nearestOf_16 : decode cX12_nearestOf 16 = .ok (.aload_n 0, 1) := by decide +kernel
theorem dX12_nearestOf_17 : decode cX12_nearestOf 17 = .ok (.iload_n 1, 1) := by decide +kernel
theorem dX12_nearestOf_18 : decode cX12_nearestOf 18 = .ok (.iload_n 2, 1) := by decide +kernel
theorem dX12_nearestOf_19 : decode cX12_nearestOf 19 = .ok (.iload 5, 2) := by decide +kernel
theorem dX12_nearestOf_21 : decode cX12_nearestOf 21 = .ok (.bipush 11, 2) := by decide +kernel
theorem dX12_nearestOf_23 : decode cX12_nearestOf 23 = .ok (.irem, 1) := by decide +kernel
theorem dX12_nearestOf_24 : decode cX12_nearestOf 24 = .ok (.iload 5, 2) := by decide +kernel
theorem dX12_nearestOf_26 : decode cX12_nearestOf 26 = .ok (.bipush 11, 2) := by decide +kernel
theorem dX12_nearestOf_28 : decode cX12_nearestOf 28 = .ok (.idiv, 1) := by decide +kernel
theorem dX12_nearestOf_29 : decode cX12_nearestOf 29 = .ok (.invokevirtual 130, 3) := by decide +kernel
theorem dX12_nearestOf_32 : decode cX12_nearestOf 32 = .ok (.istore 6, 2) := by decide +kernel
theorem dX12_nearestOf_34 : decode cX12_nearestOf 34 = .ok (.aload_n 0, 1) := by decide +kernel
theorem dX12_nearestOf_35 : decode cX12_nearestOf 35 = .ok (.getfield 7, 3) := by decide +kernel
theorem dX12_nearestOf_38 : decode cX12_nearestOf 38 = .ok (.iload 5, 2) := by decide +kernel
theorem dX12_nearestOf_40 : decode cX12_nearestOf 40 = .ok (.iaload, 1) := by decide +kernel
theorem dX12_nearestOf_41 : decode cX12_nearestOf 41 = .ok (.iconst 1, 1) := by decide +kernel
theorem dX12_nearestOf_42 : decode cX12_nearestOf 42 = .ok (.if_icmp .ne 23, 3) := by decide +kernel
theorem dX12_nearestOf_45 : decode cX12_nearestOf 45 = .ok (.iload_n 3, 1) := by decide +kernel
theorem dX12_nearestOf_46 : decode cX12_nearestOf 46 = .ok (.bipush (-4), 2) := by decide +kernel
theorem dX12_nearestOf_48 : decode cX12_nearestOf 48 = .ok (.if_icmp .eq 10, 3) := by decide +kernel
theorem dX12_nearestOf_51 : decode cX12_nearestOf 51 = .ok (.iload 6, 2) := by decide +kernel
theorem dX12_nearestOf_53 : decode cX12_nearestOf 53 = .ok (.iload 4, 2) := by decide +kernel
theorem dX12_nearestOf_55 : decode cX12_nearestOf 55 = .ok (.if_icmp .ge 10, 3) := by decide +kernel
theorem dX12_nearestOf_58 : decode cX12_nearestOf 58 = .ok (.iload 5, 2) := by decide +kernel
theorem dX12_nearestOf_60 : decode cX12_nearestOf 60 = .ok (.istore_n 3, 1) := by decide +kernel
theorem dX12_nearestOf_61 : decode cX12_nearestOf 61 = .ok (.iload 6, 2) := by decide +kernel
theorem dX12_nearestOf_63 : decode cX12_nearestOf 63 = .ok (.istore 4, 2) := by decide +kernel
theorem dX12_nearestOf_65 : decode cX12_nearestOf 65 = .ok (.iinc 5 1, 3) := by decide +kernel
theorem dX12_nearestOf_68 : decode cX12_nearestOf 68 = .ok (.goto (-59), 3) := by decide +kernel
theorem dX12_nearestOf_71 : decode cX12_nearestOf 71 = .ok (.iload_n 3, 1) := by decide +kernel
theorem dX12_nearestOf_72 : decode cX12_nearestOf 72 = .ok (.ireturn, 1) := by decide +kernel
theorem dX12_farOf_0 : decode cX12_farOf 0 = .ok (.aload_n 0, 1) := by decide +kernel
theorem dX12_farOf_1 : decode cX12_farOf 1 = .ok (.iload_n 1, 1) := by decide +kernel
theorem dX12_farOf_2 : decode cX12_farOf 2 = .ok (.iload_n 2, 1) := by decide +kernel
theorem dX12_farOf_3 : decode cX12_farOf 3 = .ok (.invokevirtual 134, 3) := by decide +kernel
theorem dX12_farOf_6 : decode cX12_farOf 6 = .ok (.istore_n 3, 1) := by decide +kernel
theorem dX12_farOf_7 : decode cX12_farOf 7 = .ok (.iload_n 3, 1) := by decide +kernel
theorem dX12_farOf_8 : decode cX12_farOf 8 = .ok (.bipush (-4), 2) := by decide +kernel
theorem dX12_farOf_10 : decode cX12_farOf 10 = .ok (.if_icmp .ne 14, 3) := by decide +kernel
theorem dX12_farOf_13 : decode cX12_farOf 13 = .ok (.aload_n 0, 1) := by decide +kernel
theorem dX12_farOf_14 : decode cX12_farOf 14 = .ok (.getfield 7, 3) := by decide +kernel
theorem dX12_farOf_17 : decode cX12_farOf 17 = .ok (.sipush 143, 3) := by decide +kernel
theorem dX12_farOf_20 : decode cX12_farOf 20 = .ok (.iaload, 1) := by decide +kernel
theorem dX12_farOf_21 : decode cX12_farOf 21 = .ok (.goto 17, 3) := by decide +kernel
theorem dX12_farOf_24 : decode cX12_farOf 24 = .ok (.aload_n 0, 1) := by decide +kernel
theorem dX12_farOf_25 : decode cX12_farOf 25 = .ok (.iload_n 1, 1) := by decide +kernel
theorem dX12_farOf_26 : decode cX12_farOf 26 = .ok (.iload_n 2, 1) := by decide +kernel
theorem dX12_farOf_27 : decode cX12_farOf 27 = .ok (.iload_n 3, 1) := by decide +kernel
theorem dX12_farOf_28 : decode cX12_farOf 28 = .ok (.bipush 11, 2) := by decide +kernel
theorem dX12_farOf_30 : decode cX12_farOf 30 = .ok (.irem, 1) := by decide +kernel
theorem dX12_farOf_31 : decode cX12_farOf 31 = .ok (.iload_n 3, 1) := by decide +kernel
theorem dX12_farOf_32 : decode cX12_farOf 32 = .ok (.bipush 11, 2) := by decide +kernel
theorem dX12_farOf_34 : decode cX12_farOf 34 = .ok (.idiv, 1) := by decide +kernel
theorem dX12_farOf_35 : decode cX12_farOf 35 = .ok (.invokevirtual 130, 3) := by decide +kernel
theorem dX12_farOf_38 : decode cX12_farOf 38 = .ok (.istore 4, 2) := by decide +kernel
theorem dX12_farOf_40 : decode cX12_farOf 40 = .ok (.iload 4, 2) := by decide +kernel
theorem dX12_farOf_42 : decode cX12_farOf 42 = .ok (.aload_n 0, 1) := by decide +kernel
theorem dX12_farOf_43 : decode cX12_farOf 43 = .ok (.getfield 7, 3) := by decide +kernel
theorem dX12_farOf_46 : decode cX12_farOf 46 = .ok (.sipush 143, 3) := by decide +kernel
theorem dX12_farOf_49 : decode cX12_farOf 49 = .ok (.iaload, 1) := by decide +kernel
theorem dX12_farOf_50 : decode cX12_farOf 50 = .ok (.if_icmp .ge 8, 3) := by decide +kernel
theorem dX12_farOf_53 : decode cX12_farOf 53 = .ok (.iload 4, 2) := by decide +kernel
theorem dX12_farOf_55 : decode cX12_farOf 55 = .ok (.goto 11, 3) := by decide +kernel
theorem dX12_farOf_58 : decode cX12_farOf 58 = .ok (.aload_n 0, 1) := by decide +kernel
theorem dX12_farOf_59 : decode cX12_farOf 59 = .ok (.getfield 7, 3) := by decide +kernel
theorem dX12_farOf_62 : decode cX12_farOf 62 = .ok (.sipush 143, 3) := by decide +kernel
theorem dX12_farOf_65 : decode cX12_farOf 65 = .ok (.iaload, 1) := by decide +kernel
theorem dX12_farOf_66 : decode cX12_farOf 66 = .ok (.ireturn, 1) := by decide +kernel
theorem dX12_cell_0 : decode cX12_cell 0 = .ok (.aload_n 0, 1) := by decide +kernel
theorem dX12_cell_1 : decode cX12_cell 1 = .ok (.iload_n 1, 1) := by decide +kernel
theorem dX12_cell_2 : decode cX12_cell 2 = .ok (.iload_n 2, 1) := by decide +kernel
theorem dX12_cell_3 : decode cX12_cell 3 = .ok (.invokevirtual 120, 3) := by decide +kernel
theorem dX12_cell_6 : decode cX12_cell 6 = .ok (.ifCond .eq 16, 3) := by decide +kernel
theorem dX12_cell_9 : decode cX12_cell 9 = .ok (.aload_n 0, 1) := by decide +kernel
theorem dX12_cell_10 : decode cX12_cell 10 = .ok (.getfield 7, 3) := by decide +kernel
theorem dX12_cell_13 : decode cX12_cell 13 = .ok (.iload_n 1, 1) := by decide +kernel
theorem dX12_cell_14 : decode cX12_cell 14 = .ok (.iload_n 2, 1) := by decide +kernel
theorem dX12_cell_15 : decode cX12_cell 15 = .ok (.invokestatic 50, 3) := by decide +kernel
theorem dX12_cell_18 : decode cX12_cell 18 = .ok (.iaload, 1) := by decide +kernel
theorem dX12_cell_19 : decode cX12_cell 19 = .ok (.goto 4, 3) := by decide +kernel
theorem dX12_cell_22 : decode cX12_cell 22 = .ok (.iconst (-1), 1) := by decide +kernel
theorem dX12_cell_23 : decode cX12_cell 23 = .ok (.ireturn, 1) := by decide +kernel
theorem dX12_far_0 : decode cX12_far 0 = .ok (.aload_n 0, 1) := by decide +kernel
theorem dX12_far_1 : decode cX12_far 1 = .ok (.iload_n 1, 1) := by decide +kernel
theorem dX12_far_2 : decode cX12_far 2 = .ok (.iload_n 2, 1) := by decide +kernel
theorem dX12_far_3 : decode cX12_far 3 = .ok (.invokevirtual 120, 3) := by decide +kernel
theorem dX12_far_6 : decode cX12_far 6 = .ok (.ifCond .eq 12, 3) := by decide +kernel
theorem dX12_far_9 : decode cX12_far 9 = .ok (.aload_n 0, 1) := by decide +kernel
theorem dX12_far_10 : decode cX12_far 10 = .ok (.iload_n 1, 1) := by decide +kernel
theorem dX12_far_11 : decode cX12_far 11 = .ok (.iload_n 2, 1) := by decide +kernel
theorem dX12_far_12 : decode cX12_far 12 = .ok (.invokevirtual 137, 3) := by decide +kernel
theorem dX12_far_15 : decode cX12_far 15 = .ok (.goto 4, 3) := by decide +kernel
theorem dX12_far_18 : decode cX12_far 18 = .ok (.iconst (-1), 1) := by decide +kernel
theorem dX12_far_19 : decode cX12_far 19 = .ok (.ireturn, 1) := by decide +kernel
theorem dX12_nearest_0 : decode cX12_nearest 0 = .ok (.aload_n 0, 1) := by decide +kernel
theorem dX12_nearest_1 : decode cX12_nearest 1 = .ok (.iload_n 1, 1) := by decide +kernel
theorem dX12_nearest_2 : decode cX12_nearest 2 = .ok (.iload_n 2, 1) := by decide +kernel
theorem dX12_nearest_3 : decode cX12_nearest 3 = .ok (.invokevirtual 120, 3) := by decide +kernel
theorem dX12_nearest_6 : decode cX12_nearest 6 = .ok (.ifCond .ne 5, 3) := by decide +kernel
theorem dX12_nearest_9 : decode cX12_nearest 9 = .ok (.iconst (-1), 1) := by decide +kernel
theorem dX12_nearest_10 : decode cX12_nearest 10 = .ok (.ireturn, 1) := by decide +kernel
theorem dX12_nearest_11 : decode cX12_nearest 11 = .ok (.aload_n 0, 1) := by decide +kernel
theorem dX12_nearest_12 : decode cX12_nearest 12 = .ok (.iload_n 1, 1) := by decide +kernel
theorem dX12_nearest_13 : decode cX12_nearest 13 = .ok (.iload_n 2, 1) := by decide +kernel
theorem dX12_nearest_14 : decode cX12_nearest 14 = .ok (.invokevirtual 134, 3) := by decide +kernel
theorem dX12_nearest_17 : decode cX12_nearest 17 = .ok (.istore_n 3, 1) := by decide +kernel
theorem dX12_nearest_18 : decode cX12_nearest 18 = .ok (.iload_n 3, 1) := by decide +kernel
theorem dX12_nearest_19 : decode cX12_nearest 19 = .ok (.bipush (-4), 2) := by decide +kernel
theorem dX12_nearest_21 : decode cX12_nearest 21 = .ok (.if_icmp .ne 8, 3) := by decide +kernel
theorem dX12_nearest_24 : decode cX12_nearest 24 = .ok (.bipush (-4), 2) := by decide +kernel
theorem dX12_nearest_26 : decode cX12_nearest 26 = .ok (.goto 15, 3) := by decide +kernel
theorem dX12_nearest_29 : decode cX12_nearest 29 = .ok (.bipush 100, 2) := by decide +kernel
theorem dX12_nearest_31 : decode cX12_nearest 31 = .ok (.iload_n 3, 1) := by decide +kernel
theorem dX12_nearest_32 : decode cX12_nearest 32 = .ok (.bipush 11, 2) := by decide +kernel
theorem dX12_nearest_34 : decode cX12_nearest 34 = .ok (.idiv, 1) := by decide +kernel
theorem dX12_nearest_35 : decode cX12_nearest 35 = .ok (.imul, 1) := by decide +kernel
theorem dX12_nearest_36 : decode cX12_nearest 36 = .ok (.iload_n 3, 1) := by decide +kernel
theorem dX12_nearest_37 : decode cX12_nearest 37 = .ok (.bipush 11, 2) := by decide +kernel
theorem dX12_nearest_39 : decode cX12_nearest 39 = .ok (.irem, 1) := by decide +kernel
theorem dX12_nearest_40 : decode cX12_nearest 40 = .ok (.iadd, 1) := by decide +kernel
theorem dX12_nearest_41 : decode cX12_nearest 41 = .ok (.ireturn, 1) := by decide +kernel
theorem dX12_rings_0 : decode cX12_rings 0 = .ok (.iload_n 1, 1) := by decide +kernel
theorem dX12_rings_1 : decode cX12_rings 1 = .ok (.iconst 0, 1) := by decide +kernel
theorem dX12_rings_2 : decode cX12_rings 2 = .ok (.bipush 99, 2) := by decide +kernel
theorem dX12_rings_4 : decode cX12_rings 4 = .ok (.invokestatic 58, 3) := by decide +kernel
theorem dX12_rings_7 : decode cX12_rings 7 = .ok (.ifCond .ne 5, 3) := by decide +kernel
theorem dX12_rings_10 : decode cX12_rings 10 = .ok (.iconst (-1), 1) := by decide +kernel
theorem dX12_rings_11 : decode cX12_rings 11 = .ok (.ireturn, 1) := by decide +kernel
theorem dX12_rings_12 : decode cX12_rings 12 = .ok (.iconst 0, 1) := by decide +kernel
theorem dX12_rings_13 : decode cX12_rings 13 = .ok (.istore_n 2, 1) := by decide +kernel
theorem dX12_rings_14 : decode cX12_rings 14 = .ok (.iconst 0, 1) := by decide +kernel
theorem dX12_rings_15 : decode cX12_rings 15 = .ok (.istore_n 3, 1) := by decide +kernel
theorem dX12_rings_16 : decode cX12_rings 16 = .ok (.iload_n 3, 1) := by decide +kernel
theorem dX12_rings_17 : decode cX12_rings 17 = .ok (.aload_n 0, 1) := by decide +kernel
theorem dX12_rings_18 : decode cX12_rings 18 = .ok (.getfield 47, 3) := by decide +kernel
theorem dX12_rings_21 : decode cX12_rings 21 = .ok (.if_icmp .ge 46, 3) := by decide +kernel
theorem dX12_rings_24 : decode cX12_rings 24 = .ok (.iconst 0, 1) := by decide +kernel
theorem dX12_rings_25 : decode cX12_rings 25 = .ok (.istore 4, 2) := by decide +kernel
theorem dX12_rings_27 : decode cX12_rings 27 = .ok (.iload 4, 2) := by decide +kernel
theorem dX12_rings_29 : decode cX12_rings 29 = .ok (.aload_n 0, 1) := by decide +kernel
theorem dX12_rings_30 : decode cX12_rings 30 = .ok (.getfield 44, 3) := by decide +kernel
theorem dX12_rings_33 : decode cX12_rings 33 = .ok (.if_icmp .ge 28, 3) := by decide +kernel
theorem dX12_rings_36 : decode cX12_rings 36 = .ok (.iload_n 2, 1) := by decide +kernel
theorem dX12_rings_37 : decode cX12_rings 37 = .ok (.aload_n 0, 1) := by decide +kernel
theorem dX12_rings_38 : decode cX12_rings 38 = .ok (.iload 4, 2) := by decide +kernel
theorem dX12_rings_40 : decode cX12_rings 40 = .ok (.iload_n 3, 1) := by decide +kernel
theorem dX12_rings_41 : decode cX12_rings 41 = .ok (.invokevirtual 137, 3) := by decide +kernel
theorem dX12_rings_44 : decode cX12_rings 44 = .ok (.iload_n 1, 1) := by decide +kernel
theorem dX12_rings_45 : decode cX12_rings 45 = .ok (.if_icmp .ne 7, 3) := by decide +kernel
theorem dX12_rings_48 : decode cX12_rings 48 = .ok (.iconst 1, 1) := by decide +kernel
theorem dX12_rings_49 : decode cX12_rings 49 = .ok (.goto 4, 3) := by decide +kernel
theorem dX12_rings_52 : decode cX12_rings 52 = .ok (.iconst 0, 1) := by decide +kernel
theorem dX12_rings_53 : decode cX12_rings 53 = .ok (.iadd, 1) := by decide +kernel
theorem dX12_rings_54 : decode cX12_rings 54 = .ok (.istore_n 2, 1) := by decide +kernel
theorem dX12_rings_55 : decode cX12_rings 55 = .ok (.iinc 4 1, 3) := by decide +kernel
theorem dX12_rings_58 : decode cX12_rings 58 = .ok (.goto (-31), 3) := by decide +kernel
theorem dX12_rings_61 : decode cX12_rings 61 = .ok (.iinc 3 1, 3) := by decide +kernel
theorem dX12_rings_64 : decode cX12_rings 64 = .ok (.goto (-48), 3) := by decide +kernel
theorem dX12_rings_67 : decode cX12_rings 67 = .ok (.iload_n 2, 1) := by decide +kernel
theorem dX12_rings_68 : decode cX12_rings 68 = .ok (.ireturn, 1) := by decide +kernel
theorem dX12_laysFars_0 : decode cX12_laysFars 0 = .ok (.iconst 0, 1) := by decide +kernel
theorem dX12_laysFars_1 : decode cX12_laysFars 1 = .ok (.istore_n 1, 1) := by decide +kernel
theorem dX12_laysFars_2 : decode cX12_laysFars 2 = .ok (.iload_n 1, 1) := by decide +kernel
theorem dX12_laysFars_3 : decode cX12_laysFars 3 = .ok (.aload_n 0, 1) := by decide +kernel
theorem dX12_laysFars_4 : decode cX12_laysFars 4 = .ok (.getfield 47, 3) := by decide +kernel
theorem dX12_laysFars_7 : decode cX12_laysFars 7 = .ok (.if_icmp .ge 41, 3) := by decide +kernel
theorem dX12_laysFars_10 : decode cX12_laysFars 10 = .ok (.iconst 0, 1) := by decide +kernel
theorem dX12_laysFars_11 : decode cX12_laysFars 11 = .ok (.istore_n 2, 1) := by decide +kernel
theorem dX12_laysFars_12 : decode cX12_laysFars 12 = .ok (.iload_n 2, 1) := by decide +kernel
theorem dX12_laysFars_13 : decode cX12_laysFars 13 = .ok (.aload_n 0, 1) := by decide +kernel
theorem dX12_laysFars_14 : decode cX12_laysFars 14 = .ok (.getfield 44, 3) := by decide +kernel
theorem dX12_laysFars_17 : decode cX12_laysFars 17 = .ok (.if_icmp .ge 25, 3) := by decide +kernel
theorem dX12_laysFars_20 : decode cX12_laysFars 20 = .ok (.aload_n 0, 1) := by decide +kernel
theorem dX12_laysFars_21 : decode cX12_laysFars 21 = .ok (.getfield 35, 3) := by decide +kernel
theorem dX12_laysFars_24 : decode cX12_laysFars 24 = .ok (.iload_n 2, 1) := by decide +kernel
theorem dX12_laysFars_25 : decode cX12_laysFars 25 = .ok (.iload_n 1, 1) := by decide +kernel
theorem dX12_laysFars_26 : decode cX12_laysFars 26 = .ok (.invokestatic 50, 3) := by decide +kernel
theorem dX12_laysFars_29 : decode cX12_laysFars 29 = .ok (.aload_n 0, 1) := by decide +kernel
theorem dX12_laysFars_30 : decode cX12_laysFars 30 = .ok (.iload_n 2, 1) := by decide +kernel
theorem dX12_laysFars_31 : decode cX12_laysFars 31 = .ok (.iload_n 1, 1) := by decide +kernel
theorem dX12_laysFars_32 : decode cX12_laysFars 32 = .ok (.invokevirtual 137, 3) := by decide +kernel
theorem dX12_laysFars_35 : decode cX12_laysFars 35 = .ok (.iastore, 1) := by decide +kernel
theorem dX12_laysFars_36 : decode cX12_laysFars 36 = .ok (.iinc 2 1, 3) := by decide +kernel
theorem dX12_laysFars_39 : decode cX12_laysFars 39 = .ok (.goto (-27), 3) := by decide +kernel
theorem dX12_laysFars_42 : decode cX12_laysFars 42 = .ok (.iinc 1 1, 3) := by decide +kernel
theorem dX12_laysFars_45 : decode cX12_laysFars 45 = .ok (.goto (-43), 3) := by decide +kernel
theorem dX12_laysFars_48 : decode cX12_laysFars 48 = .ok (.return_, 1) := by decide +kernel
theorem dX12_turn_0 : decode cX12_turn 0 = .ok (.iload_n 1, 1) := by decide +kernel
theorem dX12_turn_1 : decode cX12_turn 1 = .ok (.iconst 2, 1) := by decide +kernel
theorem dX12_turn_2 : decode cX12_turn 2 = .ok (.iconst 4, 1) := by decide +kernel
theorem dX12_turn_3 : decode cX12_turn 3 = .ok (.invokestatic 58, 3) := by decide +kernel
theorem dX12_turn_6 : decode cX12_turn 6 = .ok (.ifCond .eq 21, 3) := by decide +kernel
theorem dX12_turn_9 : decode cX12_turn 9 = .ok (.iload_n 2, 1) := by decide +kernel
theorem dX12_turn_10 : decode cX12_turn 10 = .ok (.iconst 0, 1) := by decide +kernel
theorem dX12_turn_11 : decode cX12_turn 11 = .ok (.iconst 3, 1) := by decide +kernel
theorem dX12_turn_12 : decode cX12_turn 12 = .ok (.invokestatic 58, 3) := by decide +kernel
theorem dX12_turn_15 : decode cX12_turn 15 = .ok (.ifCond .eq 12, 3) := by decide +kernel
theorem dX12_turn_18 : decode cX12_turn 18 = .ok (.iload_n 3, 1) := by decide +kernel
theorem dX12_turn_19 : decode cX12_turn 19 = .ok (.iconst 0, 1) := by decide +kernel
theorem dX12_turn_20 : decode cX12_turn 20 = .ok (.iconst 1, 1) := by decide +kernel
theorem dX12_turn_21 : decode cX12_turn 21 = .ok (.invokestatic 58, 3) := by decide +kernel
theorem dX12_turn_24 : decode cX12_turn 24 = .ok (.ifCond .ne 5, 3) := by decide +kernel
theorem dX12_turn_27 : decode cX12_turn 27 = .ok (.iconst (-1), 1) := by decide +kernel
theorem dX12_turn_28 : decode cX12_turn 28 = .ok (.ireturn, 1) := by decide +kernel
theorem dX12_turn_29 : decode cX12_turn 29 = .ok (.aload_n 0, 1) := by decide +kernel
theorem dX12_turn_30 : decode cX12_turn 30 = .ok (.iload_n 1, 1) := by decide +kernel
theorem dX12_turn_31 : decode cX12_turn 31 = .ok (.putfield 19, 3) := by decide +kernel
theorem dX12_turn_34 : decode cX12_turn 34 = .ok (.aload_n 0, 1) := by decide +kernel
theorem dX12_turn_35 : decode cX12_turn 35 = .ok (.iload_n 2, 1) := by decide +kernel
theorem dX12_turn_36 : decode cX12_turn 36 = .ok (.putfield 108, 3) := by decide +kernel
theorem dX12_turn_39 : decode cX12_turn 39 = .ok (.aload_n 0, 1) := by decide +kernel
theorem dX12_turn_40 : decode cX12_turn 40 = .ok (.iload_n 3, 1) := by decide +kernel
theorem dX12_turn_41 : decode cX12_turn 41 = .ok (.putfield 111, 3) := by decide +kernel
theorem dX12_turn_44 : decode cX12_turn 44 = .ok (.iconst 0, 1) := by decide +kernel
theorem dX12_turn_45 : decode cX12_turn 45 = .ok (.ireturn, 1) := by decide +kernel
theorem dX12_halved_0 : decode cX12_halved 0 = .ok (.iload_n 0, 1) := by decide +kernel
theorem dX12_halved_1 : decode cX12_halved 1 = .ok (.iload_n 1, 1) := by decide +kernel
theorem dX12_halved_2 : decode cX12_halved 2 = .ok (.imul, 1) := by decide +kernel
theorem dX12_halved_3 : decode cX12_halved 3 = .ok (.iconst 1, 1) := by decide +kernel
theorem dX12_halved_4 : decode cX12_halved 4 = .ok (.iadd, 1) := by decide +kernel
theorem dX12_halved_5 : decode cX12_halved 5 = .ok (.iconst 1, 1) := by decide +kernel
theorem dX12_halved_6 : decode cX12_halved 6 = .ok (.ishr, 1) := by decide +kernel
theorem dX12_halved_7 : decode cX12_halved 7 = .ok (.ireturn, 1) := by decide +kernel
theorem dX12_liesX_0 : decode cX12_liesX 0 = .ok (.iload 4, 2) := by decide +kernel
theorem dX12_liesX_2 : decode cX12_liesX 2 = .ok (.iconst 1, 1) := by decide +kernel
theorem dX12_liesX_3 : decode cX12_liesX 3 = .ok (.if_icmp .ne 16, 3) := by decide +kernel
theorem dX12_liesX_6 : decode cX12_liesX 6 = .ok (.aload_n 0, 1) := by decide +kernel
theorem dX12_liesX_7 : decode cX12_liesX 7 = .ok (.getfield 7, 3) := by decide +kernel
theorem dX12_liesX_10 : decode cX12_liesX 10 = .ok (.bipush 121, 2) := by decide +kernel
theorem dX12_liesX_12 : decode cX12_liesX 12 = .ok (.iload_n 1, 1) := by decide +kernel
theorem dX12_liesX_13 : decode cX12_liesX 13 = .ok (.iadd, 1) := by decide +kernel
theorem dX12_liesX_14 : decode cX12_liesX 14 = .ok (.iaload, 1) := by decide +kernel
theorem dX12_liesX_15 : decode cX12_liesX 15 = .ok (.ineg, 1) := by decide +kernel
theorem dX12_liesX_16 : decode cX12_liesX 16 = .ok (.goto 12, 3) := by decide +kernel
theorem dX12_liesX_19 : decode cX12_liesX 19 = .ok (.aload_n 0, 1) := by decide +kernel
theorem dX12_liesX_20 : decode cX12_liesX 20 = .ok (.getfield 7, 3) := by decide +kernel
theorem dX12_liesX_23 : decode cX12_liesX 23 = .ok (.bipush 121, 2) := by decide +kernel
theorem dX12_liesX_25 : decode cX12_liesX 25 = .ok (.iload_n 1, 1) := by decide +kernel
theorem dX12_liesX_26 : decode cX12_liesX 26 = .ok (.iadd, 1) := by decide +kernel
theorem dX12_liesX_27 : decode cX12_liesX 27 = .ok (.iaload, 1) := by decide +kernel
theorem dX12_liesX_28 : decode cX12_liesX 28 = .ok (.istore 5, 2) := by decide +kernel
theorem dX12_liesX_30 : decode cX12_liesX 30 = .ok (.aload_n 0, 1) := by decide +kernel
theorem dX12_liesX_31 : decode cX12_liesX 31 = .ok (.getfield 7, 3) := by decide +kernel
theorem dX12_liesX_34 : decode cX12_liesX 34 = .ok (.sipush 131, 3) := by decide +kernel
theorem dX12_liesX_37 : decode cX12_liesX 37 = .ok (.iload_n 1, 1) := by decide +kernel
theorem dX12_liesX_38 : decode cX12_liesX 38 = .ok (.iadd, 1) := by decide +kernel
theorem dX12_liesX_39 : decode cX12_liesX 39 = .ok (.iaload, 1) := by decide +kernel
theorem dX12_liesX_40 : decode cX12_liesX 40 = .ok (.istore 6, 2) := by decide +kernel
theorem dX12_liesX_42 : decode cX12_liesX 42 = .ok (.iload_n 3, 1) := by decide +kernel
theorem dX12_liesX_43 : decode cX12_liesX 43 = .ok (.ifCond .ne 8, 3) := by decide +kernel
theorem dX12_liesX_46 : decode cX12_liesX 46 = .ok (.iload 5, 2) := by decide +kernel
theorem dX12_liesX_48 : decode cX12_liesX 48 = .ok (.goto 27, 3) := by decide +kernel
theorem dX12_liesX_51 : decode cX12_liesX 51 = .ok (.iload_n 3, 1) := by decide +kernel
theorem dX12_liesX_52 : decode cX12_liesX 52 = .ok (.iconst 1, 1) := by decide +kernel
theorem dX12_liesX_53 : decode cX12_liesX 53 = .ok (.if_icmp .ne 9, 3) := by decide +kernel
theorem dX12_liesX_56 : decode cX12_liesX 56 = .ok (.iload 6, 2) := by decide +kernel
theorem dX12_liesX_58 : decode cX12_liesX 58 = .ok (.ineg, 1) := by decide +kernel
theorem dX12_liesX_59 : decode cX12_liesX 59 = .ok (.goto 16, 3) := by decide +kernel
theorem dX12_liesX_62 : decode cX12_liesX 62 = .ok (.iload_n 3, 1) := by decide +kernel
theorem dX12_liesX_63 : decode cX12_liesX 63 = .ok (.iconst 2, 1) := by decide +kernel
theorem dX12_liesX_64 : decode cX12_liesX 64 = .ok (.if_icmp .ne 9, 3) := by decide +kernel
theorem dX12_liesX_67 : decode cX12_liesX 67 = .ok (.iload 5, 2) := by decide +kernel
theorem dX12_liesX_69 : decode cX12_liesX 69 = .ok (.ineg, 1) := by decide +kernel
theorem dX12_liesX_70 : decode cX12_liesX 70 = .ok (.goto 5, 3) := by decide +kernel
theorem dX12_liesX_73 : decode cX12_liesX 73 = .ok (.iload 6, 2) := by decide +kernel
theorem dX12_liesX_75 : decode cX12_liesX 75 = .ok (.iload_n 2, 1) := by decide +kernel
theorem dX12_liesX_76 : decode cX12_liesX 76 = .ok (.invokestatic 140, 3) := by decide +kernel
theorem dX12_liesX_79 : decode cX12_liesX 79 = .ok (.ireturn, 1) := by decide +kernel
theorem dX12_liesY_0 : decode cX12_liesY 0 = .ok (.iload 4, 2) := by decide +kernel
theorem dX12_liesY_2 : decode cX12_liesY 2 = .ok (.iconst 1, 1) := by decide +kernel
theorem dX12_liesY_3 : decode cX12_liesY 3 = .ok (.if_icmp .ne 16, 3) := by decide +kernel
theorem dX12_liesY_6 : decode cX12_liesY 6 = .ok (.aload_n 0, 1) := by decide +kernel
theorem dX12_liesY_7 : decode cX12_liesY 7 = .ok (.getfield 7, 3) := by decide +kernel
theorem dX12_liesY_10 : decode cX12_liesY 10 = .ok (.bipush 121, 2) := by decide +kernel
theorem dX12_liesY_12 : decode cX12_liesY 12 = .ok (.iload_n 1, 1) := by decide +kernel
theorem dX12_liesY_13 : decode cX12_liesY 13 = .ok (.iadd, 1) := by decide +kernel
theorem dX12_liesY_14 : decode cX12_liesY 14 = .ok (.iaload, 1) := by decide +kernel
theorem dX12_liesY_15 : decode cX12_liesY 15 = .ok (.ineg, 1) := by decide +kernel
theorem dX12_liesY_16 : decode cX12_liesY 16 = .ok (.goto 12, 3) := by decide +kernel
theorem dX12_liesY_19 : decode cX12_liesY 19 = .ok (.aload_n 0, 1) := by decide +kernel
theorem dX12_liesY_20 : decode cX12_liesY 20 = .ok (.getfield 7, 3) := by decide +kernel
theorem dX12_liesY_23 : decode cX12_liesY 23 = .ok (.bipush 121, 2) := by decide +kernel
theorem dX12_liesY_25 : decode cX12_liesY 25 = .ok (.iload_n 1, 1) := by decide +kernel
theorem dX12_liesY_26 : decode cX12_liesY 26 = .ok (.iadd, 1) := by decide +kernel
theorem dX12_liesY_27 : decode cX12_liesY 27 = .ok (.iaload, 1) := by decide +kernel
theorem dX12_liesY_28 : decode cX12_liesY 28 = .ok (.istore 5, 2) := by decide +kernel
theorem dX12_liesY_30 : decode cX12_liesY 30 = .ok (.aload_n 0, 1) := by decide +kernel
theorem dX12_liesY_31 : decode cX12_liesY 31 = .ok (.getfield 7, 3) := by decide +kernel
theorem dX12_liesY_34 : decode cX12_liesY 34 = .ok (.sipush 131, 3) := by decide +kernel
theorem dX12_liesY_37 : decode cX12_liesY 37 = .ok (.iload_n 1, 1) := by decide +kernel
theorem dX12_liesY_38 : decode cX12_liesY 38 = .ok (.iadd, 1) := by decide +kernel
theorem dX12_liesY_39 : decode cX12_liesY 39 = .ok (.iaload, 1) := by decide +kernel
theorem dX12_liesY_40 : decode cX12_liesY 40 = .ok (.istore 6, 2) := by decide +kernel
theorem dX12_liesY_42 : decode cX12_liesY 42 = .ok (.iload_n 3, 1) := by decide +kernel
theorem dX12_liesY_43 : decode cX12_liesY 43 = .ok (.ifCond .ne 8, 3) := by decide +kernel
theorem dX12_liesY_46 : decode cX12_liesY 46 = .ok (.iload 6, 2) := by decide +kernel
theorem dX12_liesY_48 : decode cX12_liesY 48 = .ok (.goto 27, 3) := by decide +kernel
theorem dX12_liesY_51 : decode cX12_liesY 51 = .ok (.iload_n 3, 1) := by decide +kernel
theorem dX12_liesY_52 : decode cX12_liesY 52 = .ok (.iconst 1, 1) := by decide +kernel
theorem dX12_liesY_53 : decode cX12_liesY 53 = .ok (.if_icmp .ne 8, 3) := by decide +kernel
theorem dX12_liesY_56 : decode cX12_liesY 56 = .ok (.iload 5, 2) := by decide +kernel
theorem dX12_liesY_58 : decode cX12_liesY 58 = .ok (.goto 17, 3) := by decide +kernel
theorem dX12_liesY_61 : decode cX12_liesY 61 = .ok (.iload_n 3, 1) := by decide +kernel
theorem dX12_liesY_62 : decode cX12_liesY 62 = .ok (.iconst 2, 1) := by decide +kernel
theorem dX12_liesY_63 : decode cX12_liesY 63 = .ok (.if_icmp .ne 9, 3) := by decide +kernel
theorem dX12_liesY_66 : decode cX12_liesY 66 = .ok (.iload 6, 2) := by decide +kernel
theorem dX12_liesY_68 : decode cX12_liesY 68 = .ok (.ineg, 1) := by decide +kernel
theorem dX12_liesY_69 : decode cX12_liesY 69 = .ok (.goto 6, 3) := by decide +kernel
theorem dX12_liesY_72 : decode cX12_liesY 72 = .ok (.iload 5, 2) := by decide +kernel
theorem dX12_liesY_74 : decode cX12_liesY 74 = .ok (.ineg, 1) := by decide +kernel
theorem dX12_liesY_75 : decode cX12_liesY 75 = .ok (.iload_n 2, 1) := by decide +kernel
theorem dX12_liesY_76 : decode cX12_liesY 76 = .ok (.invokestatic 140, 3) := by decide +kernel
theorem dX12_liesY_79 : decode cX12_liesY 79 = .ok (.ireturn, 1) := by decide +kernel
theorem dX12_lies_0 : decode cX12_lies 0 = .ok (.aload_n 0, 1) := by decide +kernel
theorem dX12_lies_1 : decode cX12_lies 1 = .ok (.iload_n 1, 1) := by decide +kernel
theorem dX12_lies_2 : decode cX12_lies 2 = .ok (.invokevirtual 127, 3) := by decide +kernel
theorem dX12_lies_5 : decode cX12_lies 5 = .ok (.ifCond .eq 12, 3) := by decide +kernel
theorem dX12_lies_8 : decode cX12_lies 8 = .ok (.iload_n 2, 1) := by decide +kernel
theorem dX12_lies_9 : decode cX12_lies 9 = .ok (.iconst 0, 1) := by decide +kernel
theorem dX12_lies_10 : decode cX12_lies 10 = .ok (.iconst 1, 1) := by decide +kernel
theorem dX12_lies_11 : decode cX12_lies 11 = .ok (.invokestatic 58, 3) := by decide +kernel
theorem dX12_lies_14 : decode cX12_lies 14 = .ok (.ifCond .ne 5, 3) := by decide +kernel
theorem dX12_lies_17 : decode cX12_lies 17 = .ok (.iconst (-1), 1) := by decide +kernel
theorem dX12_lies_18 : decode cX12_lies 18 = .ok (.ireturn, 1) := by decide +kernel
theorem dX12_lies_19 : decode cX12_lies 19 = .ok (.bipush 100, 2) := by decide +kernel
theorem dX12_lies_21 : decode cX12_lies 21 = .ok (.iload_n 2, 1) := by decide +kernel
theorem dX12_lies_22 : decode cX12_lies 22 = .ok (.ifCond .ne 23, 3) := by decide +kernel
theorem dX12_lies_25 : decode cX12_lies 25 = .ok (.aload_n 0, 1) := by decide +kernel
theorem dX12_lies_26 : decode cX12_lies 26 = .ok (.iload_n 1, 1) := by decide +kernel
theorem dX12_lies_27 : decode cX12_lies 27 = .ok (.aload_n 0, 1) := by decide +kernel
theorem dX12_lies_28 : decode cX12_lies 28 = .ok (.getfield 19, 3) := by decide +kernel
theorem dX12_lies_31 : decode cX12_lies 31 = .ok (.aload_n 0, 1) := by decide +kernel
theorem dX12_lies_32 : decode cX12_lies 32 = .ok (.getfield 108, 3) := by decide +kernel
theorem dX12_lies_35 : decode cX12_lies 35 = .ok (.aload_n 0, 1) := by decide +kernel
theorem dX12_lies_36 : decode cX12_lies 36 = .ok (.getfield 111, 3) := by decide +kernel
theorem dX12_lies_39 : decode cX12_lies 39 = .ok (.invokevirtual 143, 3) := by decide +kernel
theorem dX12_lies_42 : decode cX12_lies 42 = .ok (.goto 20, 3) := by decide +kernel
theorem dX12_lies_45 : decode cX12_lies 45 = .ok (.aload_n 0, 1) := by decide +kernel
theorem dX12_lies_46 : decode cX12_lies 46 = .ok (.iload_n 1, 1) := by decide +kernel
theorem dX12_lies_47 : decode cX12_lies 47 = .ok (.aload_n 0, 1) := by decide +kernel
theorem dX12_lies_48 : decode cX12_lies 48 = .ok (.getfield 19, 3) := by decide +kernel
theorem dX12_lies_51 : decode cX12_lies 51 = .ok (.aload_n 0, 1) := by decide +kernel
theorem dX12_lies_52 : decode cX12_lies 52 = .ok (.getfield 108, 3) := by decide +kernel
theorem dX12_lies_55 : decode cX12_lies 55 = .ok (.aload_n 0, 1) := by decide +kernel
theorem dX12_lies_56 : decode cX12_lies 56 = .ok (.getfield 111, 3) := by decide +kernel
theorem dX12_lies_59 : decode cX12_lies 59 = .ok (.invokevirtual 146, 3) := by decide +kernel
theorem dX12_lies_62 : decode cX12_lies 62 = .ok (.iadd, 1) := by decide +kernel
theorem dX12_lies_63 : decode cX12_lies 63 = .ok (.ireturn, 1) := by decide +kernel
theorem dX12_looks_0 : decode cX12_looks 0 = .ok (.aload_n 0, 1) := by decide +kernel
theorem dX12_looks_1 : decode cX12_looks 1 = .ok (.iconst 0, 1) := by decide +kernel
theorem dX12_looks_2 : decode cX12_looks 2 = .ok (.putfield 149, 3) := by decide +kernel
theorem dX12_looks_5 : decode cX12_looks 5 = .ok (.aload_n 0, 1) := by decide +kernel
theorem dX12_looks_6 : decode cX12_looks 6 = .ok (.iconst (-1), 1) := by decide +kernel
theorem dX12_looks_7 : decode cX12_looks 7 = .ok (.putfield 152, 3) := by decide +kernel
theorem dX12_looks_10 : decode cX12_looks 10 = .ok (.aload_n 0, 1) := by decide +kernel
theorem dX12_looks_11 : decode cX12_looks 11 = .ok (.iconst 0, 1) := by decide +kernel
theorem dX12_looks_12 : decode cX12_looks 12 = .ok (.putfield 155, 3) := by decide +kernel
theorem dX12_looks_15 : decode cX12_looks 15 = .ok (.iconst 0, 1) := by decide +kernel
theorem dX12_looks_16 : decode cX12_looks 16 = .ok (.istore 6, 2) := by decide +kernel
theorem dX12_looks_18 : decode cX12_looks 18 = .ok (.iload 6, 2) := by decide +kernel
theorem dX12_looks_20 : decode cX12_looks 20 = .ok (.aload_n 0, 1) := by decide +kernel
theorem dX12_looks_21 : decode cX12_looks 21 = .ok (.getfield 7, 3) := by decide +kernel
theorem dX12_looks_24 : decode cX12_looks 24 = .ok (.sipush 141, 3) := by decide +kernel
theorem dX12_looks_27 : decode cX12_looks 27 = .ok (.iaload, 1) := by decide +kernel
theorem dX12_looks_28 : decode cX12_looks 28 = .ok (.if_icmp .ge 142, 3) := by decide +kernel
theorem dX12_looks_31 : decode cX12_looks 31 = .ok (.iload_n 1, 1) := by decide +kernel
theorem dX12_looks_32 : decode cX12_looks 32 = .ok (.aload_n 0, 1) := by decide +kernel
theorem dX12_looks_33 : decode cX12_looks 33 = .ok (.iload 6, 2) := by decide +kernel
theorem dX12_looks_35 : decode cX12_looks 35 = .ok (.iload_n 3, 1) := by decide +kernel
theorem dX12_looks_36 : decode cX12_looks 36 = .ok (.iload 4, 2) := by decide +kernel
theorem dX12_looks_38 : decode cX12_looks 38 = .ok (.iload 5, 2) := by decide +kernel
theorem dX12_looks_40 : decode cX12_looks 40 = .ok (.invokevirtual 143, 3) := by decide +kernel
theorem dX12_looks_43 : decode cX12_looks 43 = .ok (.iadd, 1) := by decide +kernel
theorem dX12_looks_44 : decode cX12_looks 44 = .ok (.istore 7, 2) := by decide +kernel
theorem dX12_looks_46 : decode cX12_looks 46 = .ok (.iload_n 2, 1) := by decide +kernel
theorem dX12_looks_47 : decode cX12_looks 47 = .ok (.aload_n 0, 1) := by decide +kernel
theorem dX12_looks_48 : decode cX12_looks 48 = .ok (.iload 6, 2) := by decide +kernel
theorem dX12_looks_50 : decode cX12_looks 50 = .ok (.iload_n 3, 1) := by decide +kernel
theorem dX12_looks_51 : decode cX12_looks 51 = .ok (.iload 4, 2) := by decide +kernel
theorem dX12_looks_53 : decode cX12_looks 53 = .ok (.iload 5, 2) := by decide +kernel
theorem dX12_looks_55 : decode cX12_looks 55 = .ok (.invokevirtual 146, 3) := by decide +kernel
theorem dX12_looks_58 : decode cX12_looks 58 = .ok (.iadd, 1) := by decide +kernel
theorem dX12_looks_59 : decode cX12_looks 59 = .ok (.istore 8, 2) := by decide +kernel
theorem dX12_looks_61 : decode cX12_looks 61 = .ok (.aload_n 0, 1) := by decide +kernel
theorem dX12_looks_62 : decode cX12_looks 62 = .ok (.iload 7, 2) := by decide +kernel
theorem dX12_looks_64 : decode cX12_looks 64 = .ok (.iload 8, 2) := by decide +kernel
theorem dX12_looks_66 : decode cX12_looks 66 = .ok (.invokevirtual 120, 3) := by decide +kernel
theorem dX12_looks_69 : decode cX12_looks 69 = .ok (.ifCond .ne 5, 3) := by decide +kernel
theorem dX12_looks_72 : decode cX12_looks 72 = .ok (.iconst 0, 1) := by decide +kernel
theorem dX12_looks_73 : decode cX12_looks 73 = .ok (.ireturn, 1) := by decide +kernel
theorem dX12_looks_74 : decode cX12_looks 74 = .ok (.aload_n 0, 1) := by decide +kernel
theorem dX12_looks_75 : decode cX12_looks 75 = .ok (.getfield 35, 3) := by decide +kernel
theorem dX12_looks_78 : decode cX12_looks 78 = .ok (.iload 7, 2) := by decide +kernel
theorem dX12_looks_80 : decode cX12_looks 80 = .ok (.iload 8, 2) := by decide +kernel
theorem dX12_looks_82 : decode cX12_looks 82 = .ok (.invokestatic 50, 3) := by decide +kernel
theorem dX12_looks_85 : decode cX12_looks 85 = .ok (.iaload, 1) := by decide +kernel
theorem dX12_looks_86 : decode cX12_looks 86 = .ok (.istore 9, 2) := by decide +kernel
theorem dX12_looks_88 : decode cX12_looks 88 = .ok (.aload_n 0, 1) := by decide +kernel
theorem dX12_looks_89 : decode cX12_looks 89 = .ok (.dup, 1) := by decide +kernel
theorem dX12_looks_90 : decode cX12_looks 90 = .ok (.getfield 149, 3) := by decide +kernel
theorem dX12_looks_93 : decode cX12_looks 93 = .ok (.iload 9, 2) := by decide +kernel
theorem dX12_looks_95 : decode cX12_looks 95 = .ok (.iadd, 1) := by decide +kernel
theorem dX12_looks_96 : decode cX12_looks 96 = .ok (.putfield 149, 3) := by decide +kernel
theorem dX12_looks_99 : decode cX12_looks 99 = .ok (.aload_n 0, 1) := by decide +kernel
theorem dX12_looks_100 : decode cX12_looks 100 = .ok (.iload 9, 2) := by decide +kernel
theorem dX12_looks_102 : decode cX12_looks 102 = .ok (.aload_n 0, 1) := by decide +kernel
theorem dX12_looks_103 : decode cX12_looks 103 = .ok (.getfield 152, 3) := by decide +kernel
theorem dX12_looks_106 : decode cX12_looks 106 = .ok (.if_icmp .le 8, 3) := by decide +kernel
theorem dX12_looks_109 : decode cX12_looks 109 = .ok (.iload 6, 2) := by decide +kernel
theorem dX12_looks_111 : decode cX12_looks 111 = .ok (.goto 7, 3) := by decide +kernel
theorem dX12_looks_114 : decode cX12_looks 114 = .ok (.aload_n 0, 1) := by decide +kernel
theorem dX12_looks_115 : decode cX12_looks 115 = .ok (.getfield 158, 3) := by decide +kernel
theorem dX12_looks_118 : decode cX12_looks 118 = .ok (.putfield 158, 3) := by decide +kernel
theorem dX12_looks_121 : decode cX12_looks 121 = .ok (.aload_n 0, 1) := by decide +kernel
theorem dX12_looks_122 : decode cX12_looks 122 = .ok (.iload 9, 2) := by decide +kernel
theorem dX12_looks_124 : decode cX12_looks 124 = .ok (.aload_n 0, 1) := by decide +kernel
theorem dX12_looks_125 : decode cX12_looks 125 = .ok (.getfield 152, 3) := by decide +kernel
theorem dX12_looks_128 : decode cX12_looks 128 = .ok (.if_icmp .le 8, 3) := by decide +kernel
theorem dX12_looks_131 : decode cX12_looks 131 = .ok (.iload 9, 2) := by decide +kernel
theorem dX12_looks_133 : decode cX12_looks 133 = .ok (.goto 7, 3) := by decide +kernel
theorem dX12_looks_136 : decode cX12_looks 136 = .ok (.aload_n 0, 1) := by decide +kernel
theorem dX12_looks_137 : decode cX12_looks 137 = .ok (.getfield 152, 3) := by decide +kernel
theorem dX12_looks_140 : decode cX12_looks 140 = .ok (.putfield 152, 3) := by decide +kernel
theorem dX12_looks_143 : decode cX12_looks 143 = .ok (.aload_n 0, 1) := by decide +kernel
theorem dX12_looks_144 : decode cX12_looks 144 = .ok (.dup, 1) := by decide +kernel
theorem dX12_looks_145 : decode cX12_looks 145 = .ok (.getfield 155, 3) := by decide +kernel
theorem dX12_looks_148 : decode cX12_looks 148 = .ok (.aload_n 0, 1) := by decide +kernel
theorem dX12_looks_149 : decode cX12_looks 149 = .ok (.getfield 7, 3) := by decide +kernel
theorem dX12_looks_152 : decode cX12_looks 152 = .ok (.iload 7, 2) := by decide +kernel
theorem dX12_looks_154 : decode cX12_looks 154 = .ok (.iload 8, 2) := by decide +kernel
theorem dX12_looks_156 : decode cX12_looks 156 = .ok (.invokestatic 50, 3) := by decide +kernel
theorem dX12_looks_159 : decode cX12_looks 159 = .ok (.iaload, 1) := by decide +kernel
theorem dX12_looks_160 : decode cX12_looks 160 = .ok (.iadd, 1) := by decide +kernel
theorem dX12_looks_161 : decode cX12_looks 161 = .ok (.putfield 155, 3) := by decide +kernel
theorem dX12_looks_164 : decode cX12_looks 164 = .ok (.iinc 6 1, 3) := by decide +kernel
theorem dX12_looks_167 : decode cX12_looks 167 = .ok (.goto (-149), 3) := by decide +kernel
theorem dX12_looks_170 : decode cX12_looks 170 = .ok (.iconst 1, 1) := by decide +kernel
