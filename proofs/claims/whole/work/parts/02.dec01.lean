theorem dX4_fromOne_25 : decode cX4_fromOne 25 = .ok (.iload_n 1, 1) := by decide +kernel
theorem dX4_fromOne_26 : decode cX4_fromOne 26 = .ok (.iload_n 2, 1) := by decide +kernel
theorem dX4_fromOne_27 : decode cX4_fromOne 27 = .ok (.iload_n 3, 1) := by decide +kernel
theorem dX4_fromOne_28 : decode cX4_fromOne 28 = .ok (.invokestatic 146, 3) := by decide +kernel
theorem dX4_fromOne_31 : decode cX4_fromOne 31 = .ok (.ireturn, 1) := by decide +kernel
theorem dX4_dips_0 : decode cX4_dips 0 = .ok (.iload_n 1, 1) := by decide +kernel
theorem dX4_dips_1 : decode cX4_dips 1 = .ok (.iload_n 2, 1) := by decide +kernel
theorem dX4_dips_2 : decode cX4_dips 2 = .ok (.invokestatic 135, 3) := by decide +kernel
theorem dX4_dips_5 : decode cX4_dips 5 = .ok (.ifCond .eq 24, 3) := by decide +kernel
theorem dX4_dips_8 : decode cX4_dips 8 = .ok (.iload_n 3, 1) := by decide +kernel
theorem dX4_dips_9 : decode cX4_dips 9 = .ok (.iconst 1, 1) := by decide +kernel
theorem dX4_dips_10 : decode cX4_dips 10 = .ok (.bipush 9, 2) := by decide +kernel
theorem dX4_dips_12 : decode cX4_dips 12 = .ok (.invokestatic 51, 3) := by decide +kernel
theorem dX4_dips_15 : decode cX4_dips 15 = .ok (.ifCond .eq 14, 3) := by decide +kernel
theorem dX4_dips_18 : decode cX4_dips 18 = .ok (.iload 4, 2) := by decide +kernel
theorem dX4_dips_20 : decode cX4_dips 20 = .ok (.iconst 0, 1) := by decide +kernel
theorem dX4_dips_21 : decode cX4_dips 21 = .ok (.bipush 60, 2) := by decide +kernel
theorem dX4_dips_23 : decode cX4_dips 23 = .ok (.invokestatic 51, 3) := by decide +kernel
theorem dX4_dips_26 : decode cX4_dips 26 = .ok (.ifCond .ne 10, 3) := by decide +kernel
theorem dX4_dips_29 : decode cX4_dips 29 = .ok (.aload_n 0, 1) := by decide +kernel
theorem dX4_dips_30 : decode cX4_dips 30 = .ok (.bipush (-2), 2) := by decide +kernel
theorem dX4_dips_32 : decode cX4_dips 32 = .ok (.invokevirtual 55, 3) := by decide +kernel
theorem dX4_dips_35 : decode cX4_dips 35 = .ok (.ireturn, 1) := by decide +kernel
theorem dX4_dips_36 : decode cX4_dips 36 = .ok (.iload 4, 2) := by decide +kernel
theorem dX4_dips_38 : decode cX4_dips 38 = .ok (.ifCond .ne 5, 3) := by decide +kernel
theorem dX4_dips_41 : decode cX4_dips 41 = .ok (.iconst 0, 1) := by decide +kernel
theorem dX4_dips_42 : decode cX4_dips 42 = .ok (.ireturn, 1) := by decide +kernel
theorem dX4_dips_43 : decode cX4_dips 43 = .ok (.iload_n 1, 1) := by decide +kernel
theorem dX4_dips_44 : decode cX4_dips 44 = .ok (.iload_n 2, 1) := by decide +kernel
theorem dX4_dips_45 : decode cX4_dips 45 = .ok (.iload_n 3, 1) := by decide +kernel
theorem dX4_dips_46 : decode cX4_dips 46 = .ok (.invokestatic 146, 3) := by decide +kernel
theorem dX4_dips_49 : decode cX4_dips 49 = .ok (.istore 5, 2) := by decide +kernel
theorem dX4_dips_51 : decode cX4_dips 51 = .ok (.iload 5, 2) := by decide +kernel
theorem dX4_dips_53 : decode cX4_dips 53 = .ok (.ifCond .le 16, 3) := by decide +kernel
theorem dX4_dips_56 : decode cX4_dips 56 = .ok (.iload 4, 2) := by decide +kernel
theorem dX4_dips_58 : decode cX4_dips 58 = .ok (.iload 5, 2) := by decide +kernel
theorem dX4_dips_60 : decode cX4_dips 60 = .ok (.iadd, 1) := by decide +kernel
theorem dX4_dips_61 : decode cX4_dips 61 = .ok (.iconst 1, 1) := by decide +kernel
theorem dX4_dips_62 : decode cX4_dips 62 = .ok (.isub, 1) := by decide +kernel
theorem dX4_dips_63 : decode cX4_dips 63 = .ok (.iload 5, 2) := by decide +kernel
theorem dX4_dips_65 : decode cX4_dips 65 = .ok (.idiv, 1) := by decide +kernel
theorem dX4_dips_66 : decode cX4_dips 66 = .ok (.goto 4, 3) := by decide +kernel
theorem dX4_dips_69 : decode cX4_dips 69 = .ok (.iconst (-1), 1) := by decide +kernel
theorem dX4_dips_70 : decode cX4_dips 70 = .ok (.ireturn, 1) := by decide +kernel
theorem dX4_edge_0 : decode cX4_edge 0 = .ok (.iload_n 1, 1) := by decide +kernel
theorem dX4_edge_1 : decode cX4_edge 1 = .ok (.iconst 4, 1) := by decide +kernel
theorem dX4_edge_2 : decode cX4_edge 2 = .ok (.bipush 99, 2) := by decide +kernel
theorem dX4_edge_4 : decode cX4_edge 4 = .ok (.invokestatic 51, 3) := by decide +kernel
theorem dX4_edge_7 : decode cX4_edge 7 = .ok (.ifCond .eq 22, 3) := by decide +kernel
theorem dX4_edge_10 : decode cX4_edge 10 = .ok (.iload_n 2, 1) := by decide +kernel
theorem dX4_edge_11 : decode cX4_edge 11 = .ok (.iconst 0, 1) := by decide +kernel
theorem dX4_edge_12 : decode cX4_edge 12 = .ok (.bipush 9, 2) := by decide +kernel
theorem dX4_edge_14 : decode cX4_edge 14 = .ok (.invokestatic 51, 3) := by decide +kernel
theorem dX4_edge_17 : decode cX4_edge 17 = .ok (.ifCond .eq 12, 3) := by decide +kernel
theorem dX4_edge_20 : decode cX4_edge 20 = .ok (.iload_n 3, 1) := by decide +kernel
theorem dX4_edge_21 : decode cX4_edge 21 = .ok (.iconst 0, 1) := by decide +kernel
theorem dX4_edge_22 : decode cX4_edge 22 = .ok (.iconst 1, 1) := by decide +kernel
theorem dX4_edge_23 : decode cX4_edge 23 = .ok (.invokestatic 51, 3) := by decide +kernel
theorem dX4_edge_26 : decode cX4_edge 26 = .ok (.ifCond .ne 10, 3) := by decide +kernel
theorem dX4_edge_29 : decode cX4_edge 29 = .ok (.aload_n 0, 1) := by decide +kernel
theorem dX4_edge_30 : decode cX4_edge 30 = .ok (.bipush (-2), 2) := by decide +kernel
theorem dX4_edge_32 : decode cX4_edge 32 = .ok (.invokevirtual 55, 3) := by decide +kernel
theorem dX4_edge_35 : decode cX4_edge 35 = .ok (.ireturn, 1) := by decide +kernel
theorem dX4_edge_36 : decode cX4_edge 36 = .ok (.iload_n 3, 1) := by decide +kernel
theorem dX4_edge_37 : decode cX4_edge 37 = .ok (.ifCond .ne 11, 3) := by decide +kernel
theorem dX4_edge_40 : decode cX4_edge 40 = .ok (.iload_n 1, 1) := by decide +kernel
theorem dX4_edge_41 : decode cX4_edge 41 = .ok (.iload_n 2, 1) := by decide +kernel
theorem dX4_edge_42 : decode cX4_edge 42 = .ok (.invokestatic 150, 3) := by decide +kernel
theorem dX4_edge_45 : decode cX4_edge 45 = .ok (.goto 8, 3) := by decide +kernel
theorem dX4_edge_48 : decode cX4_edge 48 = .ok (.iload_n 1, 1) := by decide +kernel
theorem dX4_edge_49 : decode cX4_edge 49 = .ok (.iload_n 2, 1) := by decide +kernel
theorem dX4_edge_50 : decode cX4_edge 50 = .ok (.invokestatic 153, 3) := by decide +kernel
theorem dX4_edge_53 : decode cX4_edge 53 = .ok (.ireturn, 1) := by decide +kernel
theorem dX4_gap_0 : decode cX4_gap 0 = .ok (.iload_n 1, 1) := by decide +kernel
theorem dX4_gap_1 : decode cX4_gap 1 = .ok (.iconst 4, 1) := by decide +kernel
theorem dX4_gap_2 : decode cX4_gap 2 = .ok (.bipush 99, 2) := by decide +kernel
theorem dX4_gap_4 : decode cX4_gap 4 = .ok (.invokestatic 51, 3) := by decide +kernel
theorem dX4_gap_7 : decode cX4_gap 7 = .ok (.ifCond .ne 10, 3) := by decide +kernel
theorem dX4_gap_10 : decode cX4_gap 10 = .ok (.aload_n 0, 1) := by decide +kernel
theorem dX4_gap_11 : decode cX4_gap 11 = .ok (.bipush (-2), 2) := by decide +kernel
theorem dX4_gap_13 : decode cX4_gap 13 = .ok (.invokevirtual 55, 3) := by decide +kernel
theorem dX4_gap_16 : decode cX4_gap 16 = .ok (.ireturn, 1) := by decide +kernel
theorem dX4_gap_17 : decode cX4_gap 17 = .ok (.iconst 0, 1) := by decide +kernel
theorem dX4_gap_18 : decode cX4_gap 18 = .ok (.istore_n 2, 1) := by decide +kernel
theorem dX4_gap_19 : decode cX4_gap 19 = .ok (.iconst 1, 1) := by decide +kernel
theorem dX4_gap_20 : decode cX4_gap 20 = .ok (.istore_n 3, 1) := by decide +kernel
theorem dX4_gap_21 : decode cX4_gap 21 = .ok (.iload_n 3, 1) := by decide +kernel
theorem dX4_gap_22 : decode cX4_gap 22 = .ok (.bipush 9, 2) := by decide +kernel
theorem dX4_gap_24 : decode cX4_gap 24 = .ok (.if_icmp .gt 24, 3) := by decide +kernel
theorem dX4_gap_27 : decode cX4_gap 27 = .ok (.iload_n 1, 1) := by decide +kernel
theorem dX4_gap_28 : decode cX4_gap 28 = .ok (.iload_n 3, 1) := by decide +kernel
theorem dX4_gap_29 : decode cX4_gap 29 = .ok (.invokestatic 153, 3) := by decide +kernel
theorem dX4_gap_32 : decode cX4_gap 32 = .ok (.iload_n 1, 1) := by decide +kernel
theorem dX4_gap_33 : decode cX4_gap 33 = .ok (.iload_n 2, 1) := by decide +kernel
theorem dX4_gap_34 : decode cX4_gap 34 = .ok (.invokestatic 153, 3) := by decide +kernel
theorem dX4_gap_37 : decode cX4_gap 37 = .ok (.if_icmp .ge 5, 3) := by decide +kernel
theorem dX4_gap_40 : decode cX4_gap 40 = .ok (.iload_n 3, 1) := by decide +kernel
theorem dX4_gap_41 : decode cX4_gap 41 = .ok (.istore_n 2, 1) := by decide +kernel
theorem dX4_gap_42 : decode cX4_gap 42 = .ok (.iinc 3 1, 3) := by decide +kernel
theorem dX4_gap_45 : decode cX4_gap 45 = .ok (.goto (-24), 3) := by decide +kernel
theorem dX4_gap_48 : decode cX4_gap 48 = .ok (.iload_n 2, 1) := by decide +kernel
theorem dX4_gap_49 : decode cX4_gap 49 = .ok (.ireturn, 1) := by decide +kernel
theorem dX4_hit_0 : decode cX4_hit 0 = .ok (.iload_n 1, 1) := by decide +kernel
theorem dX4_hit_1 : decode cX4_hit 1 = .ok (.iconst 0, 1) := by decide +kernel
theorem dX4_hit_2 : decode cX4_hit 2 = .ok (.iconst 1, 1) := by decide +kernel
theorem dX4_hit_3 : decode cX4_hit 3 = .ok (.invokestatic 51, 3) := by decide +kernel
theorem dX4_hit_6 : decode cX4_hit 6 = .ok (.ifCond .eq 12, 3) := by decide +kernel
theorem dX4_hit_9 : decode cX4_hit 9 = .ok (.iload_n 2, 1) := by decide +kernel
theorem dX4_hit_10 : decode cX4_hit 10 = .ok (.iconst 0, 1) := by decide +kernel
theorem dX4_hit_11 : decode cX4_hit 11 = .ok (.iconst 1, 1) := by decide +kernel
theorem dX4_hit_12 : decode cX4_hit 12 = .ok (.invokestatic 51, 3) := by decide +kernel
theorem dX4_hit_15 : decode cX4_hit 15 = .ok (.ifCond .ne 10, 3) := by decide +kernel
theorem dX4_hit_18 : decode cX4_hit 18 = .ok (.aload_n 0, 1) := by decide +kernel
theorem dX4_hit_19 : decode cX4_hit 19 = .ok (.bipush (-2), 2) := by decide +kernel
theorem dX4_hit_21 : decode cX4_hit 21 = .ok (.invokevirtual 55, 3) := by decide +kernel
theorem dX4_hit_24 : decode cX4_hit 24 = .ok (.ireturn, 1) := by decide +kernel
theorem dX4_hit_25 : decode cX4_hit 25 = .ok (.aload_n 0, 1) := by decide +kernel
theorem dX4_hit_26 : decode cX4_hit 26 = .ok (.aload_n 0, 1) := by decide +kernel
theorem dX4_hit_27 : decode cX4_hit 27 = .ok (.getfield 10, 3) := by decide +kernel
theorem dX4_hit_30 : decode cX4_hit 30 = .ok (.getfield 74, 3) := by decide +kernel
theorem dX4_hit_33 : decode cX4_hit 33 = .ok (.iload_n 1, 1) := by decide +kernel
theorem dX4_hit_34 : decode cX4_hit 34 = .ok (.iaload, 1) := by decide +kernel
theorem dX4_hit_35 : decode cX4_hit 35 = .ok (.invokevirtual 156, 3) := by decide +kernel
theorem dX4_hit_38 : decode cX4_hit 38 = .ok (.aload_n 0, 1) := by decide +kernel
theorem dX4_hit_39 : decode cX4_hit 39 = .ok (.getfield 10, 3) := by decide +kernel
theorem dX4_hit_42 : decode cX4_hit 42 = .ok (.invokevirtual 59, 3) := by decide +kernel
theorem dX4_hit_45 : decode cX4_hit 45 = .ok (.lstore_n 3, 1) := by decide +kernel
theorem dX4_hit_46 : decode cX4_hit 46 = .ok (.iconst 0, 1) := by decide +kernel
theorem dX4_hit_47 : decode cX4_hit 47 = .ok (.istore 5, 2) := by decide +kernel
theorem dX4_hit_49 : decode cX4_hit 49 = .ok (.iconst (-1), 1) := by decide +kernel
theorem dX4_hit_50 : decode cX4_hit 50 = .ok (.istore 6, 2) := by decide +kernel
theorem dX4_hit_52 : decode cX4_hit 52 = .ok (.iconst 0, 1) := by decide +kernel
theorem dX4_hit_53 : decode cX4_hit 53 = .ok (.istore 7, 2) := by decide +kernel
theorem dX4_hit_55 : decode cX4_hit 55 = .ok (.iload 7, 2) := by decide +kernel
theorem dX4_hit_57 : decode cX4_hit 57 = .ok (.sipush 256, 3) := by decide +kernel
theorem dX4_hit_60 : decode cX4_hit 60 = .ok (.if_icmp .ge 49, 3) := by decide +kernel
theorem dX4_hit_63 : decode cX4_hit 63 = .ok (.aload_n 0, 1) := by decide +kernel
theorem dX4_hit_64 : decode cX4_hit 64 = .ok (.getfield 30, 3) := by decide +kernel
theorem dX4_hit_67 : decode cX4_hit 67 = .ok (.iload 7, 2) := by decide +kernel
theorem dX4_hit_69 : decode cX4_hit 69 = .ok (.laload, 1) := by decide +kernel
theorem dX4_hit_70 : decode cX4_hit 70 = .ok (.lload_n 3, 1) := by decide +kernel
theorem dX4_hit_71 : decode cX4_hit 71 = .ok (.land, 1) := by decide +kernel
theorem dX4_hit_72 : decode cX4_hit 72 = .ok (.invokestatic 63, 3) := by decide +kernel
theorem dX4_hit_75 : decode cX4_hit 75 = .ok (.istore 8, 2) := by decide +kernel
theorem dX4_hit_77 : decode cX4_hit 77 = .ok (.iload 7, 2) := by decide +kernel
theorem dX4_hit_79 : decode cX4_hit 79 = .ok (.invokestatic 159, 3) := by decide +kernel
theorem dX4_hit_82 : decode cX4_hit 82 = .ok (.ifCond .eq 21, 3) := by decide +kernel
theorem dX4_hit_85 : decode cX4_hit 85 = .ok (.iload 8, 2) := by decide +kernel
theorem dX4_hit_87 : decode cX4_hit 87 = .ok (.iload 5, 2) := by decide +kernel
theorem dX4_hit_89 : decode cX4_hit 89 = .ok (.if_icmp .le 14, 3) := by decide +kernel
theorem dX4_hit_92 : decode cX4_hit 92 = .ok (.iload 8, 2) := by decide +kernel
theorem dX4_hit_94 : decode cX4_hit 94 = .ok (.istore 5, 2) := by decide +kernel
theorem dX4_hit_96 : decode cX4_hit 96 = .ok (.iload 7, 2) := by decide +kernel
theorem dX4_hit_98 : decode cX4_hit 98 = .ok (.invokestatic 163, 3) := by decide +kernel
theorem dX4_hit_101 : decode cX4_hit 101 = .ok (.istore 6, 2) := by decide +kernel
theorem dX4_hit_103 : decode cX4_hit 103 = .ok (.iinc 7 1, 3) := by decide +kernel
theorem dX4_hit_106 : decode cX4_hit 106 = .ok (.goto (-51), 3) := by decide +kernel
theorem dX4_hit_109 : decode cX4_hit 109 = .ok (.iload_n 2, 1) := by decide +kernel
theorem dX4_hit_110 : decode cX4_hit 110 = .ok (.ifCond .ne 13, 3) := by decide +kernel
theorem dX4_hit_113 : decode cX4_hit 113 = .ok (.iload 5, 2) := by decide +kernel
theorem dX4_hit_115 : decode cX4_hit 115 = .ok (.ifCond .le 8, 3) := by decide +kernel
theorem dX4_hit_118 : decode cX4_hit 118 = .ok (.iload 5, 2) := by decide +kernel
theorem dX4_hit_120 : decode cX4_hit 120 = .ok (.goto 5, 3) := by decide +kernel
theorem dX4_hit_123 : decode cX4_hit 123 = .ok (.iload 6, 2) := by decide +kernel
theorem dX4_hit_125 : decode cX4_hit 125 = .ok (.ireturn, 1) := by decide +kernel
theorem dX4_want_0 : decode cX4_want 0 = .ok (.iload_n 1, 1) := by decide +kernel
theorem dX4_want_1 : decode cX4_want 1 = .ok (.iload_n 2, 1) := by decide +kernel
theorem dX4_want_2 : decode cX4_want 2 = .ok (.invokestatic 119, 3) := by decide +kernel
theorem dX4_want_5 : decode cX4_want 5 = .ok (.ifCond .ne 10, 3) := by decide +kernel
theorem dX4_want_8 : decode cX4_want 8 = .ok (.aload_n 0, 1) := by decide +kernel
theorem dX4_want_9 : decode cX4_want 9 = .ok (.bipush (-2), 2) := by decide +kernel
theorem dX4_want_11 : decode cX4_want 11 = .ok (.invokevirtual 55, 3) := by decide +kernel
theorem dX4_want_14 : decode cX4_want 14 = .ok (.ireturn, 1) := by decide +kernel
theorem dX4_want_15 : decode cX4_want 15 = .ok (.aload_n 0, 1) := by decide +kernel
theorem dX4_want_16 : decode cX4_want 16 = .ok (.getfield 10, 3) := by decide +kernel
theorem dX4_want_19 : decode cX4_want 19 = .ok (.getfield 166, 3) := by decide +kernel
theorem dX4_want_22 : decode cX4_want 22 = .ok (.bipush 8, 2) := by decide +kernel
theorem dX4_want_24 : decode cX4_want 24 = .ok (.if_icmp .lt 8, 3) := by decide +kernel
theorem dX4_want_27 : decode cX4_want 27 = .ok (.aload_n 0, 1) := by decide +kernel
theorem dX4_want_28 : decode cX4_want 28 = .ok (.invokevirtual 105, 3) := by decide +kernel
theorem dX4_want_31 : decode cX4_want 31 = .ok (.ireturn, 1) := by decide +kernel
theorem dX4_want_32 : decode cX4_want 32 = .ok (.aload_n 0, 1) := by decide +kernel
theorem dX4_want_33 : decode cX4_want 33 = .ok (.getfield 10, 3) := by decide +kernel
theorem dX4_want_36 : decode cX4_want 36 = .ok (.getfield 169, 3) := by decide +kernel
theorem dX4_want_39 : decode cX4_want 39 = .ok (.aload_n 0, 1) := by decide +kernel
theorem dX4_want_40 : decode cX4_want 40 = .ok (.getfield 10, 3) := by decide +kernel
theorem dX4_want_43 : decode cX4_want 43 = .ok (.getfield 166, 3) := by decide +kernel
theorem dX4_want_46 : decode cX4_want 46 = .ok (.bipush 8, 2) := by decide +kernel
theorem dX4_want_48 : decode cX4_want 48 = .ok (.iload_n 2, 1) := by decide +kernel
theorem dX4_want_49 : decode cX4_want 49 = .ok (.imul, 1) := by decide +kernel
theorem dX4_want_50 : decode cX4_want 50 = .ok (.iload_n 1, 1) := by decide +kernel
theorem dX4_want_51 : decode cX4_want 51 = .ok (.iadd, 1) := by decide +kernel
theorem dX4_want_52 : decode cX4_want 52 = .ok (.iastore, 1) := by decide +kernel
theorem dX4_want_53 : decode cX4_want 53 = .ok (.aload_n 0, 1) := by decide +kernel
theorem dX4_want_54 : decode cX4_want 54 = .ok (.getfield 10, 3) := by decide +kernel
theorem dX4_want_57 : decode cX4_want 57 = .ok (.dup, 1) := by decide +kernel
theorem dX4_want_58 : decode cX4_want 58 = .ok (.getfield 166, 3) := by decide +kernel
theorem dX4_want_61 : decode cX4_want 61 = .ok (.iconst 1, 1) := by decide +kernel
theorem dX4_want_62 : decode cX4_want 62 = .ok (.iadd, 1) := by decide +kernel
theorem dX4_want_63 : decode cX4_want 63 = .ok (.putfield 166, 3) := by decide +kernel
theorem dX4_want_66 : decode cX4_want 66 = .ok (.aload_n 0, 1) := by decide +kernel
theorem dX4_want_67 : decode cX4_want 67 = .ok (.getfield 10, 3) := by decide +kernel
theorem dX4_want_70 : decode cX4_want 70 = .ok (.getfield 166, 3) := by decide +kernel
theorem dX4_want_73 : decode cX4_want 73 = .ok (.ireturn, 1) := by decide +kernel
theorem dX4_cover_0 : decode cX4_cover 0 = .ok (.iload_n 1, 1) := by decide +kernel
theorem dX4_cover_1 : decode cX4_cover 1 = .ok (.iconst 0, 1) := by decide +kernel
theorem dX4_cover_2 : decode cX4_cover 2 = .ok (.iconst 1, 1) := by decide +kernel
theorem dX4_cover_3 : decode cX4_cover 3 = .ok (.invokestatic 51, 3) := by decide +kernel
theorem dX4_cover_6 : decode cX4_cover 6 = .ok (.ifCond .eq 12, 3) := by decide +kernel
theorem dX4_cover_9 : decode cX4_cover 9 = .ok (.iload_n 2, 1) := by decide +kernel
theorem dX4_cover_10 : decode cX4_cover 10 = .ok (.iconst 0, 1) := by decide +kernel
theorem dX4_cover_11 : decode cX4_cover 11 = .ok (.iconst 1, 1) := by decide +kernel
theorem dX4_cover_12 : decode cX4_cover 12 = .ok (.invokestatic 51, 3) := by decide +kernel
theorem dX4_cover_15 : decode cX4_cover 15 = .ok (.ifCond .ne 10, 3) := by decide +kernel
theorem dX4_cover_18 : decode cX4_cover 18 = .ok (.aload_n 0, 1) := by decide +kernel
theorem dX4_cover_19 : decode cX4_cover 19 = .ok (.bipush (-10), 2) := by decide +kernel
theorem dX4_cover_21 : decode cX4_cover 21 = .ok (.invokevirtual 55, 3) := by decide +kernel
theorem dX4_cover_24 : decode cX4_cover 24 = .ok (.ireturn, 1) := by decide +kernel
theorem dX4_cover_25 : decode cX4_cover 25 = .ok (.aload_n 0, 1) := by decide +kernel
theorem dX4_cover_26 : decode cX4_cover 26 = .ok (.getfield 10, 3) := by decide +kernel
theorem dX4_cover_29 : decode cX4_cover 29 = .ok (.invokevirtual 172, 3) := by decide +kernel
theorem dX4_cover_32 : decode cX4_cover 32 = .ok (.lstore_n 3, 1) := by decide +kernel
theorem dX4_cover_33 : decode cX4_cover 33 = .ok (.lload_n 3, 1) := by decide +kernel
theorem dX4_cover_34 : decode cX4_cover 34 = .ok (.lconst 0, 1) := by decide +kernel
theorem dX4_cover_35 : decode cX4_cover 35 = .ok (.lcmp, 1) := by decide +kernel
theorem dX4_cover_36 : decode cX4_cover 36 = .ok (.ifCond .ne 13, 3) := by decide +kernel
theorem dX4_cover_39 : decode cX4_cover 39 = .ok (.iload_n 2, 1) := by decide +kernel
theorem dX4_cover_40 : decode cX4_cover 40 = .ok (.ifCond .ne 7, 3) := by decide +kernel
theorem dX4_cover_43 : decode cX4_cover 43 = .ok (.iconst 0, 1) := by decide +kernel
theorem dX4_cover_44 : decode cX4_cover 44 = .ok (.goto 4, 3) := by decide +kernel
theorem dX4_cover_47 : decode cX4_cover 47 = .ok (.iconst (-1), 1) := by decide +kernel
theorem dX4_cover_48 : decode cX4_cover 48 = .ok (.ireturn, 1) := by decide +kernel
theorem dX4_cover_49 : decode cX4_cover 49 = .ok (.aload_n 0, 1) := by decide +kernel
theorem dX4_cover_50 : decode cX4_cover 50 = .ok (.aload_n 0, 1) := by decide +kernel
theorem dX4_cover_51 : decode cX4_cover 51 = .ok (.getfield 10, 3) := by decide +kernel
theorem dX4_cover_54 : decode cX4_cover 54 = .ok (.getfield 74, 3) := by decide +kernel
theorem dX4_cover_57 : decode cX4_cover 57 = .ok (.iload_n 1, 1) := by decide +kernel
theorem dX4_cover_58 : decode cX4_cover 58 = .ok (.iaload, 1) := by decide +kernel
theorem dX4_cover_59 : decode cX4_cover 59 = .ok (.invokevirtual 156, 3) := by decide +kernel
theorem dX4_cover_62 : decode cX4_cover 62 = .ok (.aload_n 0, 1) := by decide +kernel
theorem dX4_cover_63 : decode cX4_cover 63 = .ok (.lload_n 3, 1) := by decide +kernel
theorem dX4_cover_64 : decode cX4_cover 64 = .ok (.invokevirtual 175, 3) := by decide +kernel
theorem dX4_cover_67 : decode cX4_cover 67 = .ok (.istore 5, 2) := by decide +kernel
theorem dX4_cover_69 : decode cX4_cover 69 = .ok (.iload 5, 2) := by decide +kernel
theorem dX4_cover_71 : decode cX4_cover 71 = .ok (.iconst (-1), 1) := by decide +kernel
theorem dX4_cover_72 : decode cX4_cover 72 = .ok (.if_icmp .eq 14, 3) := by decide +kernel
theorem dX4_cover_75 : decode cX4_cover 75 = .ok (.iload_n 2, 1) := by decide +kernel
theorem dX4_cover_76 : decode cX4_cover 76 = .ok (.ifCond .ne 7, 3) := by decide +kernel
theorem dX4_cover_79 : decode cX4_cover 79 = .ok (.iconst 1, 1) := by decide +kernel
theorem dX4_cover_80 : decode cX4_cover 80 = .ok (.goto 5, 3) := by decide +kernel
theorem dX4_cover_83 : decode cX4_cover 83 = .ok (.iload 5, 2) := by decide +kernel
theorem dX4_cover_85 : decode cX4_cover 85 = .ok (.ireturn, 1) := by decide +kernel
theorem dX4_cover_86 : decode cX4_cover 86 = .ok (.aload_n 0, 1) := by decide +kernel
theorem dX4_cover_87 : decode cX4_cover 87 = .ok (.lload_n 3, 1) := by decide +kernel
theorem dX4_cover_88 : decode cX4_cover 88 = .ok (.invokevirtual 178, 3) := by decide +kernel
theorem dX4_cover_91 : decode cX4_cover 91 = .ok (.istore 6, 2) := by decide +kernel
theorem dX4_cover_93 : decode cX4_cover 93 = .ok (.iload_n 2, 1) := by decide +kernel
theorem dX4_cover_94 : decode cX4_cover 94 = .ok (.ifCond .ne 13, 3) := by decide +kernel
theorem dX4_cover_97 : decode cX4_cover 97 = .ok (.iload 6, 2) := by decide +kernel
theorem dX4_cover_99 : decode cX4_cover 99 = .ok (.iconst (-1), 1) := by decide +kernel
theorem dX4_cover_100 : decode cX4_cover 100 = .ok (.if_icmp .eq 7, 3) := by decide +kernel
theorem dX4_cover_103 : decode cX4_cover 103 = .ok (.iconst 2, 1) := by decide +kernel
theorem dX4_cover_104 : decode cX4_cover 104 = .ok (.goto 5, 3) := by decide +kernel
theorem dX4_cover_107 : decode cX4_cover 107 = .ok (.iload 6, 2) := by decide +kernel
theorem dX4_cover_109 : decode cX4_cover 109 = .ok (.ireturn, 1) := by decide +kernel
theorem dX4_shrinks_0 : decode cX4_shrinks 0 = .ok (.iload_n 1, 1) := by decide +kernel
theorem dX4_shrinks_1 : decode cX4_shrinks 1 = .ok (.iconst 0, 1) := by decide +kernel
theorem dX4_shrinks_2 : decode cX4_shrinks 2 = .ok (.iconst 1, 1) := by decide +kernel
theorem dX4_shrinks_3 : decode cX4_shrinks 3 = .ok (.invokestatic 51, 3) := by decide +kernel
theorem dX4_shrinks_6 : decode cX4_shrinks 6 = .ok (.ifCond .eq 12, 3) := by decide +kernel
theorem dX4_shrinks_9 : decode cX4_shrinks 9 = .ok (.iload_n 2, 1) := by decide +kernel
theorem dX4_shrinks_10 : decode cX4_shrinks 10 = .ok (.iconst 0, 1) := by decide +kernel
theorem dX4_shrinks_11 : decode cX4_shrinks 11 = .ok (.iconst 4, 1) := by decide +kernel
theorem dX4_shrinks_12 : decode cX4_shrinks 12 = .ok (.invokestatic 51, 3) := by decide +kernel
theorem dX4_shrinks_15 : decode cX4_shrinks 15 = .ok (.ifCond .ne 10, 3) := by decide +kernel
theorem dX4_shrinks_18 : decode cX4_shrinks 18 = .ok (.aload_n 0, 1) := by decide +kernel
theorem dX4_shrinks_19 : decode cX4_shrinks 19 = .ok (.bipush (-2), 2) := by decide +kernel
theorem dX4_shrinks_21 : decode cX4_shrinks 21 = .ok (.invokevirtual 55, 3) := by decide +kernel
theorem dX4_shrinks_24 : decode cX4_shrinks 24 = .ok (.ireturn, 1) := by decide +kernel
theorem dX4_shrinks_25 : decode cX4_shrinks 25 = .ok (.aload_n 0, 1) := by decide +kernel
theorem dX4_shrinks_26 : decode cX4_shrinks 26 = .ok (.getfield 10, 3) := by decide +kernel
theorem dX4_shrinks_29 : decode cX4_shrinks 29 = .ok (.getfield 74, 3) := by decide +kernel
theorem dX4_shrinks_32 : decode cX4_shrinks 32 = .ok (.iload_n 1, 1) := by decide +kernel
theorem dX4_shrinks_33 : decode cX4_shrinks 33 = .ok (.iaload, 1) := by decide +kernel
theorem dX4_shrinks_34 : decode cX4_shrinks 34 = .ok (.istore_n 3, 1) := by decide +kernel
theorem dX4_shrinks_35 : decode cX4_shrinks 35 = .ok (.iconst 0, 1) := by decide +kernel
theorem dX4_shrinks_36 : decode cX4_shrinks 36 = .ok (.istore 4, 2) := by decide +kernel
theorem dX4_shrinks_38 : decode cX4_shrinks 38 = .ok (.iload 4, 2) := by decide +kernel
theorem dX4_shrinks_40 : decode cX4_shrinks 40 = .ok (.iload_n 2, 1) := by decide +kernel
theorem dX4_shrinks_41 : decode cX4_shrinks 41 = .ok (.if_icmp .ge 14, 3) := by decide +kernel
theorem dX4_shrinks_44 : decode cX4_shrinks 44 = .ok (.iload_n 3, 1) := by decide +kernel
theorem dX4_shrinks_45 : decode cX4_shrinks 45 = .ok (.invokestatic 181, 3) := by decide +kernel
theorem dX4_shrinks_48 : decode cX4_shrinks 48 = .ok (.istore_n 3, 1) := by decide +kernel
theorem dX4_shrinks_49 : decode cX4_shrinks 49 = .ok (.iinc 4 1, 3) := by decide +kernel
theorem dX4_shrinks_52 : decode cX4_shrinks 52 = .ok (.goto (-14), 3) := by decide +kernel
theorem dX4_shrinks_55 : decode cX4_shrinks 55 = .ok (.iload_n 3, 1) := by decide +kernel
theorem dX4_shrinks_56 : decode cX4_shrinks 56 = .ok (.ireturn, 1) := by decide +kernel
theorem dX4_gone_0 : decode cX4_gone 0 = .ok (.iload_n 1, 1) := by decide +kernel
theorem dX4_gone_1 : decode cX4_gone 1 = .ok (.iconst 0, 1) := by decide +kernel
theorem dX4_gone_2 : decode cX4_gone 2 = .ok (.iconst 1, 1) := by decide +kernel
theorem dX4_gone_3 : decode cX4_gone 3 = .ok (.invokestatic 51, 3) := by decide +kernel
theorem dX4_gone_6 : decode cX4_gone 6 = .ok (.ifCond .ne 10, 3) := by decide +kernel
theorem dX4_gone_9 : decode cX4_gone 9 = .ok (.aload_n 0, 1) := by decide +kernel
theorem dX4_gone_10 : decode cX4_gone 10 = .ok (.bipush (-2), 2) := by decide +kernel
theorem dX4_gone_12 : decode cX4_gone 12 = .ok (.invokevirtual 55, 3) := by decide +kernel
theorem dX4_gone_15 : decode cX4_gone 15 = .ok (.ireturn, 1) := by decide +kernel
theorem dX4_gone_16 : decode cX4_gone 16 = .ok (.aload_n 0, 1) := by decide +kernel
theorem dX4_gone_17 : decode cX4_gone 17 = .ok (.getfield 10, 3) := by decide +kernel
theorem dX4_gone_20 : decode cX4_gone 20 = .ok (.getfield 74, 3) := by decide +kernel
theorem dX4_gone_23 : decode cX4_gone 23 = .ok (.iload_n 1, 1) := by decide +kernel
theorem dX4_gone_24 : decode cX4_gone 24 = .ok (.iaload, 1) := by decide +kernel
theorem dX4_gone_25 : decode cX4_gone 25 = .ok (.istore_n 2, 1) := by decide +kernel
theorem dX4_gone_26 : decode cX4_gone 26 = .ok (.iconst 0, 1) := by decide +kernel
theorem dX4_gone_27 : decode cX4_gone 27 = .ok (.istore_n 3, 1) := by decide +kernel
theorem dX4_gone_28 : decode cX4_gone 28 = .ok (.iload_n 2, 1) := by decide +kernel
theorem dX4_gone_29 : decode cX4_gone 29 = .ok (.ifCond .eq 19, 3) := by decide +kernel
theorem dX4_gone_32 : decode cX4_gone 32 = .ok (.iload_n 3, 1) := by decide +kernel
theorem dX4_gone_33 : decode cX4_gone 33 = .ok (.iconst 4, 1) := by decide +kernel
theorem dX4_gone_34 : decode cX4_gone 34 = .ok (.if_icmp .ge 14, 3) := by decide +kernel
theorem dX4_gone_37 : decode cX4_gone 37 = .ok (.iload_n 2, 1) := by decide +kernel
theorem dX4_gone_38 : decode cX4_gone 38 = .ok (.invokestatic 181, 3) := by decide +kernel
theorem dX4_gone_41 : decode cX4_gone 41 = .ok (.istore_n 2, 1) := by decide +kernel
theorem dX4_gone_42 : decode cX4_gone 42 = .ok (.iinc 3 1, 3) := by decide +kernel
theorem dX4_gone_45 : decode cX4_gone 45 = .ok (.goto (-17), 3) := by decide +kernel
theorem dX4_gone_48 : decode cX4_gone 48 = .ok (.iload_n 3, 1) := by decide +kernel
theorem dX4_gone_49 : decode cX4_gone 49 = .ok (.ireturn, 1) := by decide +kernel
theorem dX4_seen_0 : decode cX4_seen 0 = .ok (.iload_n 1, 1) := by decide +kernel
theorem dX4_seen_1 : decode cX4_seen 1 = .ok (.iload_n 2, 1) := by decide +kernel
theorem dX4_seen_2 : decode cX4_seen 2 = .ok (.invokestatic 119, 3) := by decide +kernel
theorem dX4_seen_5 : decode cX4_seen 5 = .ok (.ifCond .eq 12, 3) := by decide +kernel
theorem dX4_seen_8 : decode cX4_seen 8 = .ok (.iload_n 3, 1) := by decide +kernel
theorem dX4_seen_9 : decode cX4_seen 9 = .ok (.iconst 0, 1) := by decide +kernel
theorem dX4_seen_10 : decode cX4_seen 10 = .ok (.iconst 1, 1) := by decide +kernel
theorem dX4_seen_11 : decode cX4_seen 11 = .ok (.invokestatic 51, 3) := by decide +kernel
theorem dX4_seen_14 : decode cX4_seen 14 = .ok (.ifCond .ne 10, 3) := by decide +kernel
theorem dX4_seen_17 : decode cX4_seen 17 = .ok (.aload_n 0, 1) := by decide +kernel
theorem dX4_seen_18 : decode cX4_seen 18 = .ok (.bipush (-2), 2) := by decide +kernel
theorem dX4_seen_20 : decode cX4_seen 20 = .ok (.invokevirtual 55, 3) := by decide +kernel
theorem dX4_seen_23 : decode cX4_seen 23 = .ok (.ireturn, 1) := by decide +kernel
theorem dX4_seen_24 : decode cX4_seen 24 = .ok (.aload_n 0, 1) := by decide +kernel
theorem dX4_seen_25 : decode cX4_seen 25 = .ok (.getfield 10, 3) := by decide +kernel
theorem dX4_seen_28 : decode cX4_seen 28 = .ok (.getfield 184, 3) := by decide +kernel
theorem dX4_seen_31 : decode cX4_seen 31 = .ok (.bipush 8, 2) := by decide +kernel
theorem dX4_seen_33 : decode cX4_seen 33 = .ok (.if_icmp .lt 8, 3) := by decide +kernel
theorem dX4_seen_36 : decode cX4_seen 36 = .ok (.aload_n 0, 1) := by decide +kernel
theorem dX4_seen_37 : decode cX4_seen 37 = .ok (.invokevirtual 105, 3) := by decide +kernel
theorem dX4_seen_40 : decode cX4_seen 40 = .ok (.ireturn, 1) := by decide +kernel
theorem dX4_seen_41 : decode cX4_seen 41 = .ok (.aload_n 0, 1) := by decide +kernel
theorem dX4_seen_42 : decode cX4_seen 42 = .ok (.getfield 10, 3) := by decide +kernel
theorem dX4_seen_45 : decode cX4_seen 45 = .ok (.getfield 187, 3) := by decide +kernel
theorem dX4_seen_48 : decode cX4_seen 48 = .ok (.aload_n 0, 1) := by decide +kernel
theorem dX4_seen_49 : decode cX4_seen 49 = .ok (.getfield 10, 3) := by decide +kernel
theorem dX4_seen_52 : decode cX4_seen 52 = .ok (.getfield 184, 3) := by decide +kernel
theorem dX4_seen_55 : decode cX4_seen 55 = .ok (.bipush 8, 2) := by decide +kernel
theorem dX4_seen_57 : decode cX4_seen 57 = .ok (.iload_n 2, 1) := by decide +kernel
theorem dX4_seen_58 : decode cX4_seen 58 = .ok (.imul, 1) := by decide +kernel
theorem dX4_seen_59 : decode cX4_seen 59 = .ok (.iload_n 1, 1) := by decide +kernel
theorem dX4_seen_60 : decode cX4_seen 60 = .ok (.iadd, 1) := by decide +kernel
theorem dX4_seen_61 : decode cX4_seen 61 = .ok (.iastore, 1) := by decide +kernel
theorem dX4_seen_62 : decode cX4_seen 62 = .ok (.aload_n 0, 1) := by decide +kernel
theorem dX4_seen_63 : decode cX4_seen 63 = .ok (.getfield 10, 3) := by decide +kernel
theorem dX4_seen_66 : decode cX4_seen 66 = .ok (.getfield 190, 3) := by decide +kernel
theorem dX4_seen_69 : decode cX4_seen 69 = .ok (.aload_n 0, 1) := by decide +kernel
theorem dX4_seen_70 : decode cX4_seen 70 = .ok (.getfield 10, 3) := by decide +kernel
theorem dX4_seen_73 : decode cX4_seen 73 = .ok (.getfield 184, 3) := by decide +kernel
theorem dX4_seen_76 : decode cX4_seen 76 = .ok (.iload_n 3, 1) := by decide +kernel
theorem dX4_seen_77 : decode cX4_seen 77 = .ok (.iastore, 1) := by decide +kernel
theorem dX4_seen_78 : decode cX4_seen 78 = .ok (.aload_n 0, 1) := by decide +kernel
theorem dX4_seen_79 : decode cX4_seen 79 = .ok (.getfield 10, 3) := by decide +kernel
theorem dX4_seen_82 : decode cX4_seen 82 = .ok (.dup, 1) := by decide +kernel
theorem dX4_seen_83 : decode cX4_seen 83 = .ok (.getfield 184, 3) := by decide +kernel
theorem dX4_seen_86 : decode cX4_seen 86 = .ok (.iconst 1, 1) := by decide +kernel
theorem dX4_seen_87 : decode cX4_seen 87 = .ok (.iadd, 1) := by decide +kernel
theorem dX4_seen_88 : decode cX4_seen 88 = .ok (.putfield 184, 3) := by decide +kernel
theorem dX4_seen_91 : decode cX4_seen 91 = .ok (.aload_n 0, 1) := by decide +kernel
theorem dX4_seen_92 : decode cX4_seen 92 = .ok (.getfield 10, 3) := by decide +kernel
theorem dX4_seen_95 : decode cX4_seen 95 = .ok (.getfield 184, 3) := by decide +kernel
theorem dX4_seen_98 : decode cX4_seen 98 = .ok (.ireturn, 1) := by decide +kernel
theorem dX4_forget_0 : decode cX4_forget 0 = .ok (.iload_n 1, 1) := by decide +kernel
theorem dX4_forget_1 : decode cX4_forget 1 = .ok (.iconst 0, 1) := by decide +kernel
theorem dX4_forget_2 : decode cX4_forget 2 = .ok (.iconst 1, 1) := by decide +kernel
theorem dX4_forget_3 : decode cX4_forget 3 = .ok (.invokestatic 51, 3) := by decide +kernel
theorem dX4_forget_6 : decode cX4_forget 6 = .ok (.ifCond .ne 10, 3) := by decide +kernel
theorem dX4_forget_9 : decode cX4_forget 9 = .ok (.aload_n 0, 1) := by decide +kernel
theorem dX4_forget_10 : decode cX4_forget 10 = .ok (.bipush (-2), 2) := by decide +kernel
theorem dX4_forget_12 : decode cX4_forget 12 = .ok (.invokevirtual 55, 3) := by decide +kernel
theorem dX4_forget_15 : decode cX4_forget 15 = .ok (.ireturn, 1) := by decide +kernel
theorem dX4_forget_16 : decode cX4_forget 16 = .ok (.iload_n 1, 1) := by decide +kernel
theorem dX4_forget_17 : decode cX4_forget 17 = .ok (.ifCond .ne 22, 3) := by decide +kernel
theorem dX4_forget_20 : decode cX4_forget 20 = .ok (.aload_n 0, 1) := by decide +kernel
theorem dX4_forget_21 : decode cX4_forget 21 = .ok (.getfield 10, 3) := by decide +kernel
theorem dX4_forget_24 : decode cX4_forget 24 = .ok (.getfield 166, 3) := by decide +kernel
theorem dX4_forget_27 : decode cX4_forget 27 = .ok (.istore_n 2, 1) := by decide +kernel
theorem dX4_forget_28 : decode cX4_forget 28 = .ok (.aload_n 0, 1) := by decide +kernel
theorem dX4_forget_29 : decode cX4_forget 29 = .ok (.getfield 10, 3) := by decide +kernel
theorem dX4_forget_32 : decode cX4_forget 32 = .ok (.iconst 0, 1) := by decide +kernel
theorem dX4_forget_33 : decode cX4_forget 33 = .ok (.putfield 166, 3) := by decide +kernel
theorem dX4_forget_36 : decode cX4_forget 36 = .ok (.goto 19, 3) := by decide +kernel
theorem dX4_forget_39 : decode cX4_forget 39 = .ok (.aload_n 0, 1) := by decide +kernel
theorem dX4_forget_40 : decode cX4_forget 40 = .ok (.getfield 10, 3) := by decide +kernel
theorem dX4_forget_43 : decode cX4_forget 43 = .ok (.getfield 184, 3) := by decide +kernel
theorem dX4_forget_46 : decode cX4_forget 46 = .ok (.istore_n 2, 1) := by decide +kernel
theorem dX4_forget_47 : decode cX4_forget 47 = .ok (.aload_n 0, 1) := by decide +kernel
theorem dX4_forget_48 : decode cX4_forget 48 = .ok (.getfield 10, 3) := by decide +kernel
theorem dX4_forget_51 : decode cX4_forget 51 = .ok (.iconst 0, 1) := by decide +kernel
theorem dX4_forget_52 : decode cX4_forget 52 = .ok (.putfield 184, 3) := by decide +kernel
theorem dX4_forget_55 : decode cX4_forget 55 = .ok (.iload_n 2, 1) := by decide +kernel
theorem dX4_forget_56 : decode cX4_forget 56 = .ok (.ireturn, 1) := by decide +kernel
theorem dX4_which_0 : decode cX4_which 0 = .ok (.iload_n 1, 1) := by decide +kernel
theorem dX4_which_1 : decode cX4_which 1 = .ok (.iconst 0, 1) := by decide +kernel
theorem dX4_which_2 : decode cX4_which 2 = .ok (.iconst 1, 1) := by decide +kernel
theorem dX4_which_3 : decode cX4_which 3 = .ok (.invokestatic 51, 3) := by decide +kernel
theorem dX4_which_6 : decode cX4_which 6 = .ok (.ifCond .eq 12, 3) := by decide +kernel
theorem dX4_which_9 : decode cX4_which 9 = .ok (.iload_n 2, 1) := by decide +kernel
theorem dX4_which_10 : decode cX4_which 10 = .ok (.iconst 0, 1) := by decide +kernel
theorem dX4_which_11 : decode cX4_which 11 = .ok (.iconst 1, 1) := by decide +kernel
theorem dX4_which_12 : decode cX4_which 12 = .ok (.invokestatic 51, 3) := by decide +kernel
theorem dX4_which_15 : decode cX4_which 15 = .ok (.ifCond .ne 10, 3) := by decide +kernel
theorem dX4_which_18 : decode cX4_which 18 = .ok (.aload_n 0, 1) := by decide +kernel
theorem dX4_which_19 : decode cX4_which 19 = .ok (.bipush (-10), 2) := by decide +kernel
theorem dX4_which_21 : decode cX4_which 21 = .ok (.invokevirtual 55, 3) := by decide +kernel
theorem dX4_which_24 : decode cX4_which 24 = .ok (.ireturn, 1) := by decide +kernel
theorem dX4_which_25 : decode cX4_which 25 = .ok (.aload_n 0, 1) := by decide +kernel
theorem dX4_which_26 : decode cX4_which 26 = .ok (.aload_n 0, 1) := by decide +kernel
theorem dX4_which_27 : decode cX4_which 27 = .ok (.getfield 10, 3) := by decide +kernel
theorem dX4_which_30 : decode cX4_which 30 = .ok (.getfield 74, 3) := by decide +kernel
theorem dX4_which_33 : decode cX4_which 33 = .ok (.iload_n 1, 1) := by decide +kernel
theorem dX4_which_34 : decode cX4_which 34 = .ok (.iaload, 1) := by decide +kernel
theorem dX4_which_35 : decode cX4_which 35 = .ok (.invokevirtual 156, 3) := by decide +kernel
theorem dX4_which_38 : decode cX4_which 38 = .ok (.aload_n 0, 1) := by decide +kernel
theorem dX4_which_39 : decode cX4_which 39 = .ok (.getfield 10, 3) := by decide +kernel
theorem dX4_which_42 : decode cX4_which 42 = .ok (.iconst 1, 1) := by decide +kernel
theorem dX4_which_43 : decode cX4_which 43 = .ok (.invokevirtual 193, 3) := by decide +kernel
theorem dX4_which_46 : decode cX4_which 46 = .ok (.lstore_n 3, 1) := by decide +kernel
theorem dX4_which_47 : decode cX4_which 47 = .ok (.aload_n 0, 1) := by decide +kernel
theorem dX4_which_48 : decode cX4_which 48 = .ok (.getfield 10, 3) := by decide +kernel
theorem dX4_which_51 : decode cX4_which 51 = .ok (.iconst 0, 1) := by decide +kernel
theorem dX4_which_52 : decode cX4_which 52 = .ok (.invokevirtual 193, 3) := by decide +kernel
theorem dX4_which_55 : decode cX4_which 55 = .ok (.lstore 5, 2) := by decide +kernel
theorem dX4_which_57 : decode cX4_which 57 = .ok (.iconst 0, 1) := by decide +kernel
theorem dX4_which_58 : decode cX4_which 58 = .ok (.istore 7, 2) := by decide +kernel
theorem dX4_which_60 : decode cX4_which 60 = .ok (.iconst (-1), 1) := by decide +kernel
theorem dX4_which_61 : decode cX4_which 61 = .ok (.istore 8, 2) := by decide +kernel
theorem dX4_which_63 : decode cX4_which 63 = .ok (.iconst 0, 1) := by decide +kernel
theorem dX4_which_64 : decode cX4_which 64 = .ok (.istore 9, 2) := by decide +kernel
theorem dX4_which_66 : decode cX4_which 66 = .ok (.iload 9, 2) := by decide +kernel
theorem dX4_which_68 : decode cX4_which 68 = .ok (.sipush 256, 3) := by decide +kernel
theorem dX4_which_71 : decode cX4_which 71 = .ok (.if_icmp .ge 40, 3) := by decide +kernel
theorem dX4_which_74 : decode cX4_which 74 = .ok (.aload_n 0, 1) := by decide +kernel
theorem dX4_which_75 : decode cX4_which 75 = .ok (.getfield 30, 3) := by decide +kernel
theorem dX4_which_78 : decode cX4_which 78 = .ok (.iload 9, 2) := by decide +kernel
theorem dX4_which_80 : decode cX4_which 80 = .ok (.laload, 1) := by decide +kernel
theorem dX4_which_81 : decode cX4_which 81 = .ok (.lload_n 3, 1) := by decide +kernel
theorem dX4_which_82 : decode cX4_which 82 = .ok (.lload 5, 2) := by decide +kernel
theorem dX4_which_84 : decode cX4_which 84 = .ok (.invokestatic 197, 3) := by decide +kernel
theorem dX4_which_87 : decode cX4_which 87 = .ok (.ifCond .eq 18, 3) := by decide +kernel
theorem dX4_which_90 : decode cX4_which 90 = .ok (.iload 7, 2) := by decide +kernel
theorem dX4_which_92 : decode cX4_which 92 = .ok (.ifCond .ne 10, 3) := by decide +kernel
theorem dX4_which_95 : decode cX4_which 95 = .ok (.iload 9, 2) := by decide +kernel
theorem dX4_which_97 : decode cX4_which 97 = .ok (.invokestatic 163, 3) := by decide +kernel
theorem dX4_which_100 : decode cX4_which 100 = .ok (.istore 8, 2) := by decide +kernel
theorem dX4_which_102 : decode cX4_which 102 = .ok (.iinc 7 1, 3) := by decide +kernel
theorem dX4_which_105 : decode cX4_which 105 = .ok (.iinc 9 1, 3) := by decide +kernel
theorem dX4_which_108 : decode cX4_which 108 = .ok (.goto (-42), 3) := by decide +kernel
theorem dX4_which_111 : decode cX4_which 111 = .ok (.iload_n 2, 1) := by decide +kernel
theorem dX4_which_112 : decode cX4_which 112 = .ok (.ifCond .ne 8, 3) := by decide +kernel
theorem dX4_which_115 : decode cX4_which 115 = .ok (.iload 7, 2) := by decide +kernel
theorem dX4_which_117 : decode cX4_which 117 = .ok (.goto 5, 3) := by decide +kernel
theorem dX4_which_120 : decode cX4_which 120 = .ok (.iload 8, 2) := by decide +kernel
theorem dX4_which_122 : decode cX4_which 122 = .ok (.ireturn, 1) := by decide +kernel
theorem dX4_look_0 : decode cX4_look 0 = .ok (.iload_n 1, 1) := by decide +kernel
theorem dX4_look_1 : decode cX4_look 1 = .ok (.iconst 0, 1) := by decide +kernel
theorem dX4_look_2 : decode cX4_look 2 = .ok (.iconst 1, 1) := by decide +kernel
theorem dX4_look_3 : decode cX4_look 3 = .ok (.invokestatic 51, 3) := by decide +kernel
theorem dX4_look_6 : decode cX4_look 6 = .ok (.ifCond .ne 10, 3) := by decide +kernel
theorem dX4_look_9 : decode cX4_look 9 = .ok (.aload_n 0, 1) := by decide +kernel
theorem dX4_look_10 : decode cX4_look 10 = .ok (.bipush (-2), 2) := by decide +kernel
theorem dX4_look_12 : decode cX4_look 12 = .ok (.invokevirtual 55, 3) := by decide +kernel
theorem dX4_look_15 : decode cX4_look 15 = .ok (.ireturn, 1) := by decide +kernel
theorem dX4_look_16 : decode cX4_look 16 = .ok (.aload_n 0, 1) := by decide +kernel
theorem dX4_look_17 : decode cX4_look 17 = .ok (.aload_n 0, 1) := by decide +kernel
theorem dX4_look_18 : decode cX4_look 18 = .ok (.getfield 10, 3) := by decide +kernel
theorem dX4_look_21 : decode cX4_look 21 = .ok (.getfield 74, 3) := by decide +kernel
theorem dX4_look_24 : decode cX4_look 24 = .ok (.iload_n 1, 1) := by decide +kernel
theorem dX4_look_25 : decode cX4_look 25 = .ok (.iaload, 1) := by decide +kernel
theorem dX4_look_26 : decode cX4_look 26 = .ok (.invokevirtual 156, 3) := by decide +kernel
theorem dX4_look_29 : decode cX4_look 29 = .ok (.aload_n 0, 1) := by decide +kernel
theorem dX4_look_30 : decode cX4_look 30 = .ok (.invokevirtual 201, 3) := by decide +kernel
theorem dX4_look_33 : decode cX4_look 33 = .ok (.istore_n 2, 1) := by decide +kernel
theorem dX4_look_34 : decode cX4_look 34 = .ok (.iload_n 2, 1) := by decide +kernel
theorem dX4_look_35 : decode cX4_look 35 = .ok (.ifCond .ne 5, 3) := by decide +kernel
theorem dX4_look_38 : decode cX4_look 38 = .ok (.iconst (-1), 1) := by decide +kernel
theorem dX4_look_39 : decode cX4_look 39 = .ok (.ireturn, 1) := by decide +kernel
theorem dX4_look_40 : decode cX4_look 40 = .ok (.iconst 0, 1) := by decide +kernel
theorem dX4_look_41 : decode cX4_look 41 = .ok (.istore_n 3, 1) := by decide +kernel
theorem dX4_look_42 : decode cX4_look 42 = .ok (.iload_n 2, 1) := by decide +kernel
theorem dX4_look_43 : decode cX4_look 43 = .ok (.iconst 1, 1) := by decide +kernel
theorem dX4_look_44 : decode cX4_look 44 = .ok (.iadd, 1) := by decide +kernel
theorem dX4_look_45 : decode cX4_look 45 = .ok (.istore 4, 2) := by decide +kernel
theorem dX4_look_47 : decode cX4_look 47 = .ok (.iconst 0, 1) := by decide +kernel
theorem dX4_look_48 : decode cX4_look 48 = .ok (.istore 5, 2) := by decide +kernel
theorem dX4_look_50 : decode cX4_look 50 = .ok (.iload 5, 2) := by decide +kernel
theorem dX4_look_52 : decode cX4_look 52 = .ok (.bipush 63, 2) := by decide +kernel
theorem dX4_look_54 : decode cX4_look 54 = .ok (.if_icmp .gt 43, 3) := by decide +kernel
theorem dX4_look_57 : decode cX4_look 57 = .ok (.aload_n 0, 1) := by decide +kernel
theorem dX4_look_58 : decode cX4_look 58 = .ok (.iload 5, 2) := by decide +kernel
theorem dX4_look_60 : decode cX4_look 60 = .ok (.iload_n 2, 1) := by decide +kernel
theorem dX4_look_61 : decode cX4_look 61 = .ok (.invokevirtual 204, 3) := by decide +kernel
theorem dX4_look_64 : decode cX4_look 64 = .ok (.istore 6, 2) := by decide +kernel
theorem dX4_look_66 : decode cX4_look 66 = .ok (.iload 6, 2) := by decide +kernel
theorem dX4_look_68 : decode cX4_look 68 = .ok (.iload_n 2, 1) := by decide +kernel
theorem dX4_look_69 : decode cX4_look 69 = .ok (.iload 6, 2) := by decide +kernel
theorem dX4_look_71 : decode cX4_look 71 = .ok (.isub, 1) := by decide +kernel
theorem dX4_look_72 : decode cX4_look 72 = .ok (.invokestatic 207, 3) := by decide +kernel
theorem dX4_look_75 : decode cX4_look 75 = .ok (.istore 7, 2) := by decide +kernel
theorem dX4_look_77 : decode cX4_look 77 = .ok (.iload 7, 2) := by decide +kernel
theorem dX4_look_79 : decode cX4_look 79 = .ok (.iload 4, 2) := by decide +kernel
theorem dX4_look_81 : decode cX4_look 81 = .ok (.if_icmp .ge 10, 3) := by decide +kernel
theorem dX4_look_84 : decode cX4_look 84 = .ok (.iload 7, 2) := by decide +kernel
theorem dX4_look_86 : decode cX4_look 86 = .ok (.istore 4, 2) := by decide +kernel
theorem dX4_look_88 : decode cX4_look 88 = .ok (.iload 5, 2) := by decide +kernel
theorem dX4_look_90 : decode cX4_look 90 = .ok (.istore_n 3, 1) := by decide +kernel
theorem dX4_look_91 : decode cX4_look 91 = .ok (.iinc 5 1, 3) := by decide +kernel
theorem dX4_look_94 : decode cX4_look 94 = .ok (.goto (-44), 3) := by decide +kernel
theorem dX4_look_97 : decode cX4_look 97 = .ok (.iload_n 3, 1) := by decide +kernel
theorem dX4_look_98 : decode cX4_look 98 = .ok (.ireturn, 1) := by decide +kernel
theorem dX4_bitten_0 : decode cX4_bitten 0 = .ok (.iconst 0, 1) := by decide +kernel
theorem dX4_bitten_1 : decode cX4_bitten 1 = .ok (.iload_n 1, 1) := by decide +kernel
theorem dX4_bitten_2 : decode cX4_bitten 2 = .ok (.iload_n 2, 1) := by decide +kernel
theorem dX4_bitten_3 : decode cX4_bitten 3 = .ok (.iload_n 3, 1) := by decide +kernel
theorem dX4_bitten_4 : decode cX4_bitten 4 = .ok (.iload 4, 2) := by decide +kernel
theorem dX4_bitten_6 : decode cX4_bitten 6 = .ok (.invokestatic 87, 3) := by decide +kernel
theorem dX4_bitten_9 : decode cX4_bitten 9 = .ok (.ifCond .eq 13, 3) := by decide +kernel
theorem dX4_bitten_12 : decode cX4_bitten 12 = .ok (.iload 5, 2) := by decide +kernel
theorem dX4_bitten_14 : decode cX4_bitten 14 = .ok (.iconst 0, 1) := by decide +kernel
theorem dX4_bitten_15 : decode cX4_bitten 15 = .ok (.iconst 1, 1) := by decide +kernel
theorem dX4_bitten_16 : decode cX4_bitten 16 = .ok (.invokestatic 51, 3) := by decide +kernel
theorem dX4_bitten_19 : decode cX4_bitten 19 = .ok (.ifCond .ne 10, 3) := by decide +kernel
theorem dX4_bitten_22 : decode cX4_bitten 22 = .ok (.aload_n 0, 1) := by decide +kernel
theorem dX4_bitten_23 : decode cX4_bitten 23 = .ok (.bipush (-2), 2) := by decide +kernel
theorem dX4_bitten_25 : decode cX4_bitten 25 = .ok (.invokevirtual 55, 3) := by decide +kernel
theorem dX4_bitten_28 : decode cX4_bitten 28 = .ok (.ireturn, 1) := by decide +kernel
theorem dX4_bitten_29 : decode cX4_bitten 29 = .ok (.aload_n 0, 1) := by decide +kernel
theorem dX4_bitten_30 : decode cX4_bitten 30 = .ok (.getfield 10, 3) := by decide +kernel
theorem dX4_bitten_33 : decode cX4_bitten 33 = .ok (.getfield 74, 3) := by decide +kernel
theorem dX4_bitten_36 : decode cX4_bitten 36 = .ok (.iload_n 1, 1) := by decide +kernel
theorem dX4_bitten_37 : decode cX4_bitten 37 = .ok (.iaload, 1) := by decide +kernel
theorem dX4_bitten_38 : decode cX4_bitten 38 = .ok (.istore 6, 2) := by decide +kernel
theorem dX4_bitten_40 : decode cX4_bitten 40 = .ok (.iload 5, 2) := by decide +kernel
theorem dX4_bitten_42 : decode cX4_bitten 42 = .ok (.ifCond .ne 14, 3) := by decide +kernel
theorem dX4_bitten_45 : decode cX4_bitten 45 = .ok (.aload_n 0, 1) := by decide +kernel
theorem dX4_bitten_46 : decode cX4_bitten 46 = .ok (.iload 6, 2) := by decide +kernel
theorem dX4_bitten_48 : decode cX4_bitten 48 = .ok (.iload_n 2, 1) := by decide +kernel
theorem dX4_bitten_49 : decode cX4_bitten 49 = .ok (.iload_n 3, 1) := by decide +kernel
theorem dX4_bitten_50 : decode cX4_bitten 50 = .ok (.iload 4, 2) := by decide +kernel
theorem dX4_bitten_52 : decode cX4_bitten 52 = .ok (.invokevirtual 212, 3) := by decide +kernel
theorem dX4_bitten_55 : decode cX4_bitten 55 = .ok (.ireturn, 1) := by decide +kernel
theorem dX4_bitten_56 : decode cX4_bitten 56 = .ok (.iload 6, 2) := by decide +kernel
theorem dX4_bitten_58 : decode cX4_bitten 58 = .ok (.iload 4, 2) := by decide +kernel
theorem dX4_bitten_60 : decode cX4_bitten 60 = .ok (.invokestatic 126, 3) := by decide +kernel
theorem dX4_bitten_63 : decode cX4_bitten 63 = .ok (.iload_n 2, 1) := by decide +kernel
theorem dX4_bitten_64 : decode cX4_bitten 64 = .ok (.iload_n 3, 1) := by decide +kernel
theorem dX4_bitten_65 : decode cX4_bitten 65 = .ok (.invokestatic 216, 3) := by decide +kernel
theorem dX4_bitten_68 : decode cX4_bitten 68 = .ok (.lstore 7, 2) := by decide +kernel
theorem dX4_bitten_70 : decode cX4_bitten 70 = .ok (.aload_n 0, 1) := by decide +kernel
theorem dX4_bitten_71 : decode cX4_bitten 71 = .ok (.getfield 10, 3) := by decide +kernel
theorem dX4_bitten_74 : decode cX4_bitten 74 = .ok (.iconst 1, 1) := by decide +kernel
theorem dX4_bitten_75 : decode cX4_bitten 75 = .ok (.invokevirtual 193, 3) := by decide +kernel
theorem dX4_bitten_78 : decode cX4_bitten 78 = .ok (.lload 7, 2) := by decide +kernel
theorem dX4_bitten_80 : decode cX4_bitten 80 = .ok (.ldc2_w 219, 3) := by decide +kernel
theorem dX4_bitten_83 : decode cX4_bitten 83 = .ok (.lxor, 1) := by decide +kernel
theorem dX4_bitten_84 : decode cX4_bitten 84 = .ok (.land, 1) := by decide +kernel
theorem dX4_bitten_85 : decode cX4_bitten 85 = .ok (.lconst 0, 1) := by decide +kernel
theorem dX4_bitten_86 : decode cX4_bitten 86 = .ok (.lcmp, 1) := by decide +kernel
theorem dX4_bitten_87 : decode cX4_bitten 87 = .ok (.ifCond .ne 7, 3) := by decide +kernel
theorem dX4_bitten_90 : decode cX4_bitten 90 = .ok (.iconst 1, 1) := by decide +kernel
theorem dX4_bitten_91 : decode cX4_bitten 91 = .ok (.goto 4, 3) := by decide +kernel
theorem dX4_bitten_94 : decode cX4_bitten 94 = .ok (.iconst 0, 1) := by decide +kernel
theorem dX4_bitten_95 : decode cX4_bitten 95 = .ok (.ireturn, 1) := by decide +kernel
theorem dX4_slips_0 : decode cX4_slips 0 = .ok (.iload_n 1, 1) := by decide +kernel
theorem dX4_slips_1 : decode cX4_slips 1 = .ok (.iload_n 2, 1) := by decide +kernel
theorem dX4_slips_2 : decode cX4_slips 2 = .ok (.iload_n 3, 1) := by decide +kernel
theorem dX4_slips_3 : decode cX4_slips 3 = .ok (.iload 4, 2) := by decide +kernel
theorem dX4_slips_5 : decode cX4_slips 5 = .ok (.iconst 0, 1) := by decide +kernel
theorem dX4_slips_6 : decode cX4_slips 6 = .ok (.invokestatic 87, 3) := by decide +kernel
theorem dX4_slips_9 : decode cX4_slips 9 = .ok (.ifCond .eq 35, 3) := by decide +kernel
theorem dX4_slips_12 : decode cX4_slips 12 = .ok (.iload 5, 2) := by decide +kernel
theorem dX4_slips_14 : decode cX4_slips 14 = .ok (.iconst 0, 1) := by decide +kernel
theorem dX4_slips_15 : decode cX4_slips 15 = .ok (.iconst 5, 1) := by decide +kernel
theorem dX4_slips_16 : decode cX4_slips 16 = .ok (.invokestatic 51, 3) := by decide +kernel
theorem dX4_slips_19 : decode cX4_slips 19 = .ok (.ifCond .eq 25, 3) := by decide +kernel
theorem dX4_slips_22 : decode cX4_slips 22 = .ok (.iload 6, 2) := by decide +kernel
theorem dX4_slips_24 : decode cX4_slips 24 = .ok (.iconst 0, 1) := by decide +kernel
theorem dX4_slips_25 : decode cX4_slips 25 = .ok (.bipush 10, 2) := by decide +kernel
theorem dX4_slips_27 : decode cX4_slips 27 = .ok (.invokestatic 51, 3) := by decide +kernel
theorem dX4_slips_30 : decode cX4_slips 30 = .ok (.ifCond .eq 14, 3) := by decide +kernel
theorem dX4_slips_33 : decode cX4_slips 33 = .ok (.iload 7, 2) := by decide +kernel
theorem dX4_slips_35 : decode cX4_slips 35 = .ok (.iconst 0, 1) := by decide +kernel
theorem dX4_slips_36 : decode cX4_slips 36 = .ok (.bipush 63, 2) := by decide +kernel
theorem dX4_slips_38 : decode cX4_slips 38 = .ok (.invokestatic 51, 3) := by decide +kernel
theorem dX4_slips_41 : decode cX4_slips 41 = .ok (.ifCond .ne 10, 3) := by decide +kernel
theorem dX4_slips_44 : decode cX4_slips 44 = .ok (.aload_n 0, 1) := by decide +kernel
theorem dX4_slips_45 : decode cX4_slips 45 = .ok (.bipush (-2), 2) := by decide +kernel
theorem dX4_slips_47 : decode cX4_slips 47 = .ok (.invokevirtual 55, 3) := by decide +kernel
theorem dX4_slips_50 : decode cX4_slips 50 = .ok (.ireturn, 1) := by decide +kernel
theorem dX4_slips_51 : decode cX4_slips 51 = .ok (.aload_n 0, 1) := by decide +kernel
theorem dX4_slips_52 : decode cX4_slips 52 = .ok (.getfield 10, 3) := by decide +kernel
theorem dX4_slips_55 : decode cX4_slips 55 = .ok (.getfield 74, 3) := by decide +kernel
theorem dX4_slips_58 : decode cX4_slips 58 = .ok (.iload_n 2, 1) := by decide +kernel
theorem dX4_slips_59 : decode cX4_slips 59 = .ok (.iaload, 1) := by decide +kernel
theorem dX4_slips_60 : decode cX4_slips 60 = .ok (.iconst 0, 1) := by decide +kernel
theorem dX4_slips_61 : decode cX4_slips 61 = .ok (.invokestatic 126, 3) := by decide +kernel
theorem dX4_slips_64 : decode cX4_slips 64 = .ok (.istore 8, 2) := by decide +kernel
theorem dX4_slips_66 : decode cX4_slips 66 = .ok (.aload_n 0, 1) := by decide +kernel
theorem dX4_slips_67 : decode cX4_slips 67 = .ok (.getfield 10, 3) := by decide +kernel
theorem dX4_slips_70 : decode cX4_slips 70 = .ok (.getfield 81, 3) := by decide +kernel
theorem dX4_slips_73 : decode cX4_slips 73 = .ok (.istore 9, 2) := by decide +kernel
theorem dX4_slips_75 : decode cX4_slips 75 = .ok (.lconst 1, 1) := by decide +kernel
theorem dX4_slips_76 : decode cX4_slips 76 = .ok (.lstore 10, 2) := by decide +kernel
theorem dX4_slips_78 : decode cX4_slips 78 = .ok (.lconst 1, 1) := by decide +kernel
theorem dX4_slips_79 : decode cX4_slips 79 = .ok (.lstore 12, 2) := by decide +kernel
theorem dX4_slips_81 : decode cX4_slips 81 = .ok (.iconst 0, 1) := by decide +kernel
theorem dX4_slips_82 : decode cX4_slips 82 = .ok (.istore 14, 2) := by decide +kernel
theorem dX4_slips_84 : decode cX4_slips 84 = .ok (.iload 14, 2) := by decide +kernel
theorem dX4_slips_86 : decode cX4_slips 86 = .ok (.iload 5, 2) := by decide +kernel
theorem dX4_slips_88 : decode cX4_slips 88 = .ok (.if_icmp .ge 93, 3) := by decide +kernel
theorem dX4_slips_91 : decode cX4_slips 91 = .ok (.iconst 0, 1) := by decide +kernel
theorem dX4_slips_92 : decode cX4_slips 92 = .ok (.istore 15, 2) := by decide +kernel
theorem dX4_slips_94 : decode cX4_slips 94 = .ok (.iload_n 1, 1) := by decide +kernel
theorem dX4_slips_95 : decode cX4_slips 95 = .ok (.iload 9, 2) := by decide +kernel
theorem dX4_slips_97 : decode cX4_slips 97 = .ok (.iload 8, 2) := by decide +kernel
theorem dX4_slips_99 : decode cX4_slips 99 = .ok (.iload_n 3, 1) := by decide +kernel
theorem dX4_slips_100 : decode cX4_slips 100 = .ok (.iload 4, 2) := by decide +kernel
theorem dX4_slips_102 : decode cX4_slips 102 = .ok (.iload 7, 2) := by decide +kernel
theorem dX4_slips_104 : decode cX4_slips 104 = .ok (.invokestatic 221, 3) := by decide +kernel
theorem dX4_slips_107 : decode cX4_slips 107 = .ok (.ifCond .eq 13, 3) := by decide +kernel
theorem dX4_slips_110 : decode cX4_slips 110 = .ok (.iload 15, 2) := by decide +kernel
theorem dX4_slips_112 : decode cX4_slips 112 = .ok (.bipush 10, 2) := by decide +kernel
theorem dX4_slips_114 : decode cX4_slips 114 = .ok (.iload 6, 2) := by decide +kernel
theorem dX4_slips_116 : decode cX4_slips 116 = .ok (.isub, 1) := by decide +kernel
theorem dX4_slips_117 : decode cX4_slips 117 = .ok (.iadd, 1) := by decide +kernel
theorem dX4_slips_118 : decode cX4_slips 118 = .ok (.istore 15, 2) := by decide +kernel
theorem dX4_slips_120 : decode cX4_slips 120 = .ok (.iload_n 1, 1) := by decide +kernel
theorem dX4_slips_121 : decode cX4_slips 121 = .ok (.iload 9, 2) := by decide +kernel
theorem dX4_slips_123 : decode cX4_slips 123 = .ok (.iload 8, 2) := by decide +kernel
theorem dX4_slips_125 : decode cX4_slips 125 = .ok (.iload_n 3, 1) := by decide +kernel
theorem dX4_slips_126 : decode cX4_slips 126 = .ok (.iconst 1, 1) := by decide +kernel
theorem dX4_slips_127 : decode cX4_slips 127 = .ok (.iadd, 1) := by decide +kernel
theorem dX4_slips_128 : decode cX4_slips 128 = .ok (.iload 4, 2) := by decide +kernel
theorem dX4_slips_130 : decode cX4_slips 130 = .ok (.iload 7, 2) := by decide +kernel
theorem dX4_slips_132 : decode cX4_slips 132 = .ok (.invokestatic 221, 3) := by decide +kernel
theorem dX4_slips_135 : decode cX4_slips 135 = .ok (.ifCond .eq 10, 3) := by decide +kernel
theorem dX4_slips_138 : decode cX4_slips 138 = .ok (.iload 15, 2) := by decide +kernel
theorem dX4_slips_140 : decode cX4_slips 140 = .ok (.iload 6, 2) := by decide +kernel
theorem dX4_slips_142 : decode cX4_slips 142 = .ok (.iadd, 1) := by decide +kernel
theorem dX4_slips_143 : decode cX4_slips 143 = .ok (.istore 15, 2) := by decide +kernel
theorem dX4_slips_145 : decode cX4_slips 145 = .ok (.lload 10, 2) := by decide +kernel
theorem dX4_slips_147 : decode cX4_slips 147 = .ok (.bipush 10, 2) := by decide +kernel
theorem dX4_slips_149 : decode cX4_slips 149 = .ok (.iload 15, 2) := by decide +kernel
theorem dX4_slips_151 : decode cX4_slips 151 = .ok (.isub, 1) := by decide +kernel
theorem dX4_slips_152 : decode cX4_slips 152 = .ok (.i2l, 1) := by decide +kernel
theorem dX4_slips_153 : decode cX4_slips 153 = .ok (.lmul, 1) := by decide +kernel
theorem dX4_slips_154 : decode cX4_slips 154 = .ok (.lstore 10, 2) := by decide +kernel
theorem dX4_slips_156 : decode cX4_slips 156 = .ok (.lload 12, 2) := by decide +kernel
theorem dX4_slips_158 : decode cX4_slips 158 = .ok (.ldc2_w 225, 3) := by decide +kernel
theorem dX4_slips_161 : decode cX4_slips 161 = .ok (.lmul, 1) := by decide +kernel
theorem dX4_slips_162 : decode cX4_slips 162 = .ok (.lstore 12, 2) := by decide +kernel
theorem dX4_slips_164 : decode cX4_slips 164 = .ok (.iload 9, 2) := by decide +kernel
theorem dX4_slips_166 : decode cX4_slips 166 = .ok (.iload_n 1, 1) := by decide +kernel
theorem dX4_slips_167 : decode cX4_slips 167 = .ok (.iload 9, 2) := by decide +kernel
theorem dX4_slips_169 : decode cX4_slips 169 = .ok (.invokestatic 143, 3) := by decide +kernel
theorem dX4_slips_172 : decode cX4_slips 172 = .ok (.isub, 1) := by decide +kernel
theorem dX4_slips_173 : decode cX4_slips 173 = .ok (.istore 9, 2) := by decide +kernel
theorem dX4_slips_175 : decode cX4_slips 175 = .ok (.iinc 14 1, 3) := by decide +kernel
theorem dX4_slips_178 : decode cX4_slips 178 = .ok (.goto (-94), 3) := by decide +kernel
theorem dX4_slips_181 : decode cX4_slips 181 = .ok (.aload_n 0, 1) := by decide +kernel
theorem dX4_slips_182 : decode cX4_slips 182 = .ok (.lload 12, 2) := by decide +kernel
theorem dX4_slips_184 : decode cX4_slips 184 = .ok (.lload 10, 2) := by decide +kernel
theorem dX4_slips_186 : decode cX4_slips 186 = .ok (.lsub, 1) := by decide +kernel
theorem dX4_slips_187 : decode cX4_slips 187 = .ok (.lload 12, 2) := by decide +kernel
theorem dX4_slips_189 : decode cX4_slips 189 = .ok (.invokevirtual 227, 3) := by decide +kernel
theorem dX4_slips_192 : decode cX4_slips 192 = .ok (.iconst 1, 1) := by decide +kernel
theorem dX4_slips_193 : decode cX4_slips 193 = .ok (.ireturn, 1) := by decide +kernel
theorem dX4_sheets_0 : decode cX4_sheets 0 = .ok (.iload_n 1, 1) := by decide +kernel
theorem dX4_sheets_1 : decode cX4_sheets 1 = .ok (.iconst 0, 1) := by decide +kernel
theorem dX4_sheets_2 : decode cX4_sheets 2 = .ok (.ldc 231, 2) := by decide +kernel
theorem dX4_sheets_4 : decode cX4_sheets 4 = .ok (.invokestatic 51, 3) := by decide +kernel
theorem dX4_sheets_7 : decode cX4_sheets 7 = .ok (.ifCond .eq 13, 3) := by decide +kernel
theorem dX4_sheets_10 : decode cX4_sheets 10 = .ok (.iload_n 2, 1) := by decide +kernel
theorem dX4_sheets_11 : decode cX4_sheets 11 = .ok (.iconst 0, 1) := by decide +kernel
theorem dX4_sheets_12 : decode cX4_sheets 12 = .ok (.bipush 30, 2) := by decide +kernel
theorem dX4_sheets_14 : decode cX4_sheets 14 = .ok (.invokestatic 51, 3) := by decide +kernel
theorem dX4_sheets_17 : decode cX4_sheets 17 = .ok (.ifCond .ne 10, 3) := by decide +kernel
theorem dX4_sheets_20 : decode cX4_sheets 20 = .ok (.aload_n 0, 1) := by decide +kernel
theorem dX4_sheets_21 : decode cX4_sheets 21 = .ok (.bipush (-2), 2) := by decide +kernel
theorem dX4_sheets_23 : decode cX4_sheets 23 = .ok (.invokevirtual 55, 3) := by decide +kernel
theorem dX4_sheets_26 : decode cX4_sheets 26 = .ok (.ireturn, 1) := by decide +kernel
theorem dX4_sheets_27 : decode cX4_sheets 27 = .ok (.aload_n 0, 1) := by decide +kernel
theorem dX4_sheets_28 : decode cX4_sheets 28 = .ok (.getfield 16, 3) := by decide +kernel
theorem dX4_sheets_31 : decode cX4_sheets 31 = .ok (.aload_n 0, 1) := by decide +kernel
theorem dX4_sheets_32 : decode cX4_sheets 32 = .ok (.getfield 10, 3) := by decide +kernel
theorem dX4_sheets_35 : decode cX4_sheets 35 = .ok (.invokevirtual 132, 3) := by decide +kernel
theorem dX4_sheets_38 : decode cX4_sheets 38 = .ok (.iload_n 1, 1) := by decide +kernel
theorem dX4_sheets_39 : decode cX4_sheets 39 = .ok (.i2l, 1) := by decide +kernel
theorem dX4_sheets_40 : decode cX4_sheets 40 = .ok (.lstore_n 3, 1) := by decide +kernel
theorem dX4_sheets_41 : decode cX4_sheets 41 = .ok (.iconst 0, 1) := by decide +kernel
theorem dX4_sheets_42 : decode cX4_sheets 42 = .ok (.istore 5, 2) := by decide +kernel
theorem dX4_sheets_44 : decode cX4_sheets 44 = .ok (.iload 5, 2) := by decide +kernel
theorem dX4_sheets_46 : decode cX4_sheets 46 = .ok (.iload_n 2, 1) := by decide +kernel
theorem dX4_sheets_47 : decode cX4_sheets 47 = .ok (.if_icmp .ge 101, 3) := by decide +kernel
theorem dX4_sheets_50 : decode cX4_sheets 50 = .ok (.lload_n 3, 1) := by decide +kernel
theorem dX4_sheets_51 : decode cX4_sheets 51 = .ok (.invokestatic 232, 3) := by decide +kernel
theorem dX4_sheets_54 : decode cX4_sheets 54 = .ok (.lstore_n 3, 1) := by decide +kernel
theorem dX4_sheets_55 : decode cX4_sheets 55 = .ok (.lload_n 3, 1) := by decide +kernel
theorem dX4_sheets_56 : decode cX4_sheets 56 = .ok (.iconst 5, 1) := by decide +kernel
theorem dX4_sheets_57 : decode cX4_sheets 57 = .ok (.invokestatic 236, 3) := by decide +kernel
theorem dX4_sheets_60 : decode cX4_sheets 60 = .ok (.istore 6, 2) := by decide +kernel
theorem dX4_sheets_62 : decode cX4_sheets 62 = .ok (.lload_n 3, 1) := by decide +kernel
theorem dX4_sheets_63 : decode cX4_sheets 63 = .ok (.invokestatic 232, 3) := by decide +kernel
theorem dX4_sheets_66 : decode cX4_sheets 66 = .ok (.lstore_n 3, 1) := by decide +kernel
theorem dX4_sheets_67 : decode cX4_sheets 67 = .ok (.lload_n 3, 1) := by decide +kernel
theorem dX4_sheets_68 : decode cX4_sheets 68 = .ok (.iconst 1, 1) := by decide +kernel
theorem dX4_sheets_69 : decode cX4_sheets 69 = .ok (.invokestatic 236, 3) := by decide +kernel
theorem dX4_sheets_72 : decode cX4_sheets 72 = .ok (.istore 7, 2) := by decide +kernel
theorem dX4_sheets_74 : decode cX4_sheets 74 = .ok (.lload_n 3, 1) := by decide +kernel
theorem dX4_sheets_75 : decode cX4_sheets 75 = .ok (.invokestatic 232, 3) := by decide +kernel
theorem dX4_sheets_78 : decode cX4_sheets 78 = .ok (.lstore_n 3, 1) := by decide +kernel
theorem dX4_sheets_79 : decode cX4_sheets 79 = .ok (.lload_n 3, 1) := by decide +kernel
theorem dX4_sheets_80 : decode cX4_sheets 80 = .ok (.bipush 63, 2) := by decide +kernel
theorem dX4_sheets_82 : decode cX4_sheets 82 = .ok (.invokestatic 236, 3) := by decide +kernel
theorem dX4_sheets_85 : decode cX4_sheets 85 = .ok (.istore 8, 2) := by decide +kernel
theorem dX4_sheets_87 : decode cX4_sheets 87 = .ok (.lload_n 3, 1) := by decide +kernel
theorem dX4_sheets_88 : decode cX4_sheets 88 = .ok (.invokestatic 232, 3) := by decide +kernel
theorem dX4_sheets_91 : decode cX4_sheets 91 = .ok (.lstore_n 3, 1) := by decide +kernel
theorem dX4_sheets_92 : decode cX4_sheets 92 = .ok (.lload_n 3, 1) := by decide +kernel
theorem dX4_sheets_93 : decode cX4_sheets 93 = .ok (.iconst 3, 1) := by decide +kernel
theorem dX4_sheets_94 : decode cX4_sheets 94 = .ok (.invokestatic 236, 3) := by decide +kernel
theorem dX4_sheets_97 : decode cX4_sheets 97 = .ok (.istore 9, 2) := by decide +kernel
theorem dX4_sheets_99 : decode cX4_sheets 99 = .ok (.aload_n 0, 1) := by decide +kernel
theorem dX4_sheets_100 : decode cX4_sheets 100 = .ok (.getfield 16, 3) := by decide +kernel
theorem dX4_sheets_103 : decode cX4_sheets 103 = .ok (.getfield 81, 3) := by decide +kernel
theorem dX4_sheets_106 : decode cX4_sheets 106 = .ok (.ifCond .ne 12, 3) := by decide +kernel
theorem dX4_sheets_109 : decode cX4_sheets 109 = .ok (.aload_n 0, 1) := by decide +kernel
theorem dX4_sheets_110 : decode cX4_sheets 110 = .ok (.getfield 16, 3) := by decide +kernel
theorem dX4_sheets_113 : decode cX4_sheets 113 = .ok (.bipush 12, 2) := by decide +kernel
theorem dX4_sheets_115 : decode cX4_sheets 115 = .ok (.putfield 81, 3) := by decide +kernel
theorem dX4_sheets_118 : decode cX4_sheets 118 = .ok (.aload_n 0, 1) := by decide +kernel
theorem dX4_sheets_119 : decode cX4_sheets 119 = .ok (.getfield 16, 3) := by decide +kernel
theorem dX4_sheets_122 : decode cX4_sheets 122 = .ok (.iload 6, 2) := by decide +kernel
theorem dX4_sheets_124 : decode cX4_sheets 124 = .ok (.iload 7, 2) := by decide +kernel
theorem dX4_sheets_126 : decode cX4_sheets 126 = .ok (.iload 8, 2) := by decide +kernel
theorem dX4_sheets_128 : decode cX4_sheets 128 = .ok (.bipush 8, 2) := by decide +kernel
theorem dX4_sheets_130 : decode cX4_sheets 130 = .ok (.irem, 1) := by decide +kernel
theorem dX4_sheets_131 : decode cX4_sheets 131 = .ok (.iload 8, 2) := by decide +kernel
theorem dX4_sheets_133 : decode cX4_sheets 133 = .ok (.bipush 8, 2) := by decide +kernel
theorem dX4_sheets_135 : decode cX4_sheets 135 = .ok (.idiv, 1) := by decide +kernel
theorem dX4_sheets_136 : decode cX4_sheets 136 = .ok (.iload 9, 2) := by decide +kernel
theorem dX4_sheets_138 : decode cX4_sheets 138 = .ok (.invokevirtual 95, 3) := by decide +kernel
theorem dX4_sheets_141 : decode cX4_sheets 141 = .ok (.pop, 1) := by decide +kernel
theorem dX4_sheets_142 : decode cX4_sheets 142 = .ok (.iinc 5 1, 3) := by decide +kernel
theorem dX4_sheets_145 : decode cX4_sheets 145 = .ok (.goto (-101), 3) := by decide +kernel
theorem dX4_sheets_148 : decode cX4_sheets 148 = .ok (.aload_n 0, 1) := by decide +kernel
theorem dX4_sheets_149 : decode cX4_sheets 149 = .ok (.getfield 16, 3) := by decide +kernel
theorem dX4_sheets_152 : decode cX4_sheets 152 = .ok (.invokevirtual 240, 3) := by decide +kernel
theorem dX4_sheets_155 : decode cX4_sheets 155 = .ok (.ireturn, 1) := by decide +kernel
theorem dX4_part_0 : decode cX4_part 0 = .ok (.iload_n 1, 1) := by decide +kernel
theorem dX4_part_1 : decode cX4_part 1 = .ok (.iconst 0, 1) := by decide +kernel
theorem dX4_part_2 : decode cX4_part 2 = .ok (.iconst 1, 1) := by decide +kernel
theorem dX4_part_3 : decode cX4_part 3 = .ok (.invokestatic 51, 3) := by decide +kernel
theorem dX4_part_6 : decode cX4_part 6 = .ok (.ifCond .ne 11, 3) := by decide +kernel
theorem dX4_part_9 : decode cX4_part 9 = .ok (.aload_n 0, 1) := by decide +kernel
theorem dX4_part_10 : decode cX4_part 10 = .ok (.bipush (-2), 2) := by decide +kernel
theorem dX4_part_12 : decode cX4_part 12 = .ok (.invokevirtual 55, 3) := by decide +kernel
theorem dX4_part_15 : decode cX4_part 15 = .ok (.i2l, 1) := by decide +kernel
theorem dX4_part_16 : decode cX4_part 16 = .ok (.lreturn, 1) := by decide +kernel
theorem dX4_part_17 : decode cX4_part 17 = .ok (.iload_n 1, 1) := by decide +kernel
theorem dX4_part_18 : decode cX4_part 18 = .ok (.ifCond .ne 10, 3) := by decide +kernel
theorem dX4_part_21 : decode cX4_part 21 = .ok (.aload_n 0, 1) := by decide +kernel
theorem dX4_part_22 : decode cX4_part 22 = .ok (.getfield 34, 3) := by decide +kernel
theorem dX4_part_25 : decode cX4_part 25 = .ok (.goto 7, 3) := by decide +kernel
theorem dX4_part_28 : decode cX4_part 28 = .ok (.aload_n 0, 1) := by decide +kernel
theorem dX4_part_29 : decode cX4_part 29 = .ok (.getfield 38, 3) := by decide +kernel
theorem dX4_part_32 : decode cX4_part 32 = .ok (.lreturn, 1) := by decide +kernel
theorem dX4_image_0 : decode cX4_image 0 = .ok (.iload_n 1, 1) := by decide +kernel
theorem dX4_image_1 : decode cX4_image 1 = .ok (.iconst 0, 1) := by decide +kernel
theorem dX4_image_2 : decode cX4_image 2 = .ok (.iconst 1, 1) := by decide +kernel
theorem dX4_image_3 : decode cX4_image 3 = .ok (.invokestatic 51, 3) := by decide +kernel
theorem dX4_image_6 : decode cX4_image 6 = .ok (.ifCond .ne 10, 3) := by decide +kernel
theorem dX4_image_9 : decode cX4_image 9 = .ok (.aload_n 0, 1) := by decide +kernel
theorem dX4_image_10 : decode cX4_image 10 = .ok (.bipush (-2), 2) := by decide +kernel
theorem dX4_image_12 : decode cX4_image 12 = .ok (.invokevirtual 55, 3) := by decide +kernel
theorem dX4_image_15 : decode cX4_image 15 = .ok (.ireturn, 1) := by decide +kernel
theorem dX4_image_16 : decode cX4_image 16 = .ok (.aload_n 0, 1) := by decide +kernel
theorem dX4_image_17 : decode cX4_image 17 = .ok (.getfield 19, 3) := by decide +kernel
theorem dX4_image_20 : decode cX4_image 20 = .ok (.iload_n 1, 1) := by decide +kernel
theorem dX4_image_21 : decode cX4_image 21 = .ok (.aaload, 1) := by decide +kernel
theorem dX4_image_22 : decode cX4_image 22 = .ok (.astore_n 2, 1) := by decide +kernel
theorem dX4_image_23 : decode cX4_image 23 = .ok (.aload_n 2, 1) := by decide +kernel
theorem dX4_image_24 : decode cX4_image 24 = .ok (.ifnonnull 18, 3) := by decide +kernel
theorem dX4_image_27 : decode cX4_image 27 = .ok (.new 7, 3) := by decide +kernel
theorem dX4_image_30 : decode cX4_image 30 = .ok (.dup, 1) := by decide +kernel
theorem dX4_image_31 : decode cX4_image 31 = .ok (.invokespecial 9, 3) := by decide +kernel
theorem dX4_image_34 : decode cX4_image 34 = .ok (.astore_n 2, 1) := by decide +kernel
theorem dX4_image_35 : decode cX4_image 35 = .ok (.aload_n 0, 1) := by decide +kernel
theorem dX4_image_36 : decode cX4_image 36 = .ok (.getfield 19, 3) := by decide +kernel
theorem dX4_image_39 : decode cX4_image 39 = .ok (.iload_n 1, 1) := by decide +kernel
theorem dX4_image_40 : decode cX4_image 40 = .ok (.aload_n 2, 1) := by decide +kernel
theorem dX4_image_41 : decode cX4_image 41 = .ok (.aastore, 1) := by decide +kernel
theorem dX4_image_42 : decode cX4_image 42 = .ok (.aload_n 2, 1) := by decide +kernel
theorem dX4_image_43 : decode cX4_image 43 = .ok (.aload_n 0, 1) := by decide +kernel
theorem dX4_image_44 : decode cX4_image 44 = .ok (.getfield 10, 3) := by decide +kernel
theorem dX4_image_47 : decode cX4_image 47 = .ok (.invokevirtual 115, 3) := by decide +kernel
theorem dX4_image_50 : decode cX4_image 50 = .ok (.iconst 1, 1) := by decide +kernel
theorem dX4_image_51 : decode cX4_image 51 = .ok (.ireturn, 1) := by decide +kernel
theorem dX4_from_0 : decode cX4_from 0 = .ok (.iload_n 1, 1) := by decide +kernel
theorem dX4_from_1 : decode cX4_from 1 = .ok (.iconst 0, 1) := by decide +kernel
theorem dX4_from_2 : decode cX4_from 2 = .ok (.iconst 1, 1) := by decide +kernel
theorem dX4_from_3 : decode cX4_from 3 = .ok (.invokestatic 51, 3) := by decide +kernel
theorem dX4_from_6 : decode cX4_from 6 = .ok (.ifCond .ne 10, 3) := by decide +kernel
theorem dX4_from_9 : decode cX4_from 9 = .ok (.aload_n 0, 1) := by decide +kernel
theorem dX4_from_10 : decode cX4_from 10 = .ok (.bipush (-2), 2) := by decide +kernel
theorem dX4_from_12 : decode cX4_from 12 = .ok (.invokevirtual 55, 3) := by decide +kernel
theorem dX4_from_15 : decode cX4_from 15 = .ok (.ireturn, 1) := by decide +kernel
theorem dX4_from_16 : decode cX4_from 16 = .ok (.aload_n 0, 1) := by decide +kernel
theorem dX4_from_17 : decode cX4_from 17 = .ok (.getfield 19, 3) := by decide +kernel
theorem dX4_from_20 : decode cX4_from 20 = .ok (.iload_n 1, 1) := by decide +kernel
theorem dX4_from_21 : decode cX4_from 21 = .ok (.aaload, 1) := by decide +kernel
theorem dX4_from_22 : decode cX4_from 22 = .ok (.astore_n 2, 1) := by decide +kernel
theorem dX4_from_23 : decode cX4_from 23 = .ok (.aload_n 2, 1) := by decide +kernel
theorem dX4_from_24 : decode cX4_from 24 = .ok (.ifnonnull 8, 3) := by decide +kernel
theorem dX4_from_27 : decode cX4_from 27 = .ok (.aload_n 0, 1) := by decide +kernel
theorem dX4_from_28 : decode cX4_from 28 = .ok (.invokevirtual 91, 3) := by decide +kernel
theorem dX4_from_31 : decode cX4_from 31 = .ok (.ireturn, 1) := by decide +kernel
theorem dX4_from_32 : decode cX4_from 32 = .ok (.aload_n 0, 1) := by decide +kernel
theorem dX4_from_33 : decode cX4_from 33 = .ok (.getfield 10, 3) := by decide +kernel
theorem dX4_from_36 : decode cX4_from 36 = .ok (.aload_n 2, 1) := by decide +kernel
theorem dX4_from_37 : decode cX4_from 37 = .ok (.invokevirtual 115, 3) := by decide +kernel
theorem dX4_from_40 : decode cX4_from 40 = .ok (.iconst 1, 1) := by decide +kernel
theorem dX4_from_41 : decode cX4_from 41 = .ok (.ireturn, 1) := by decide +kernel
theorem dX4_status_0 : decode cX4_status 0 = .ok (.iload_n 1, 1) := by decide +kernel
theorem dX4_status_1 : decode cX4_status 1 = .ok (.tableswitch 42 0 2 #[27, 32, 37], 27) := by decide +kernel
theorem dX4_status_28 : decode cX4_status 28 = .ok (.aload_n 0, 1) := by decide +kernel
theorem dX4_status_29 : decode cX4_status 29 = .ok (.getfield 41, 3) := by decide +kernel
theorem dX4_status_32 : decode cX4_status 32 = .ok (.ireturn, 1) := by decide +kernel
theorem dX4_status_33 : decode cX4_status 33 = .ok (.aload_n 0, 1) := by decide +kernel
theorem dX4_status_34 : decode cX4_status 34 = .ok (.getfield 45, 3) := by decide +kernel
theorem dX4_status_37 : decode cX4_status 37 = .ok (.ireturn, 1) := by decide +kernel
theorem dX4_status_38 : decode cX4_status 38 = .ok (.aload_n 0, 1) := by decide +kernel
theorem dX4_status_39 : decode cX4_status 39 = .ok (.getfield 48, 3) := by decide +kernel
theorem dX4_status_42 : decode cX4_status 42 = .ok (.ireturn, 1) := by decide +kernel
theorem dX4_status_43 : decode cX4_status 43 = .ok (.aload_n 0, 1) := by decide +kernel
theorem dX4_status_44 : decode cX4_status 44 = .ok (.iconst (-1), 1) := by decide +kernel
theorem dX4_status_45 : decode cX4_status 45 = .ok (.invokevirtual 55, 3) := by decide +kernel
theorem dX4_status_48 : decode cX4_status 48 = .ok (.ireturn, 1) := by decide +kernel
theorem dX4_count_0 : decode cX4_count 0 = .ok (.iload_n 1, 1) := by decide +kernel
theorem dX4_count_1 : decode cX4_count 1 = .ok (.iconst 0, 1) := by decide +kernel
theorem dX4_count_2 : decode cX4_count 2 = .ok (.iconst 5, 1) := by decide +kernel
theorem dX4_count_3 : decode cX4_count 3 = .ok (.invokestatic 51, 3) := by decide +kernel
theorem dX4_count_6 : decode cX4_count 6 = .ok (.ifCond .ne 10, 3) := by decide +kernel
theorem dX4_count_9 : decode cX4_count 9 = .ok (.aload_n 0, 1) := by decide +kernel
theorem dX4_count_10 : decode cX4_count 10 = .ok (.bipush (-2), 2) := by decide +kernel
theorem dX4_count_12 : decode cX4_count 12 = .ok (.invokevirtual 55, 3) := by decide +kernel
theorem dX4_count_15 : decode cX4_count 15 = .ok (.ireturn, 1) := by decide +kernel
theorem dX4_count_16 : decode cX4_count 16 = .ok (.aload_n 0, 1) := by decide +kernel
theorem dX4_count_17 : decode cX4_count 17 = .ok (.iload_n 1, 1) := by decide +kernel
theorem dX4_count_18 : decode cX4_count 18 = .ok (.invokevirtual 243, 3) := by decide +kernel
theorem dX4_count_21 : decode cX4_count 21 = .ok (.ireturn, 1) := by decide +kernel
theorem dX4_digest_0 : decode cX4_digest 0 = .ok (.ldc2_w 246, 3) := by decide +kernel
theorem dX4_digest_3 : decode cX4_digest 3 = .ok (.lstore_n 1, 1) := by decide +kernel
theorem dX4_digest_4 : decode cX4_digest 4 = .ok (.iconst 0, 1) := by decide +kernel
theorem dX4_digest_5 : decode cX4_digest 5 = .ok (.istore_n 3, 1) := by decide +kernel
theorem dX4_digest_6 : decode cX4_digest 6 = .ok (.iload_n 3, 1) := by decide +kernel
theorem dX4_digest_7 : decode cX4_digest 7 = .ok (.iconst 5, 1) := by decide +kernel
theorem dX4_digest_8 : decode cX4_digest 8 = .ok (.if_icmp .gt 22, 3) := by decide +kernel
theorem dX4_digest_11 : decode cX4_digest 11 = .ok (.ldc2_w 248, 3) := by decide +kernel
theorem dX4_digest_14 : decode cX4_digest 14 = .ok (.lload_n 1, 1) := by decide +kernel
theorem dX4_digest_15 : decode cX4_digest 15 = .ok (.lmul, 1) := by decide +kernel
theorem dX4_digest_16 : decode cX4_digest 16 = .ok (.aload_n 0, 1) := by decide +kernel
theorem dX4_digest_17 : decode cX4_digest 17 = .ok (.iload_n 3, 1) := by decide +kernel
theorem dX4_digest_18 : decode cX4_digest 18 = .ok (.invokevirtual 243, 3) := by decide +kernel
theorem dX4_digest_21 : decode cX4_digest 21 = .ok (.i2l, 1) := by decide +kernel
theorem dX4_digest_22 : decode cX4_digest 22 = .ok (.ladd, 1) := by decide +kernel
theorem dX4_digest_23 : decode cX4_digest 23 = .ok (.lstore_n 1, 1) := by decide +kernel
theorem dX4_digest_24 : decode cX4_digest 24 = .ok (.iinc 3 1, 3) := by decide +kernel
theorem dX4_digest_27 : decode cX4_digest 27 = .ok (.goto (-21), 3) := by decide +kernel
theorem dX4_digest_30 : decode cX4_digest 30 = .ok (.iconst 0, 1) := by decide +kernel
theorem dX4_digest_31 : decode cX4_digest 31 = .ok (.istore_n 3, 1) := by decide +kernel
theorem dX4_digest_32 : decode cX4_digest 32 = .ok (.iload_n 3, 1) := by decide +kernel
theorem dX4_digest_33 : decode cX4_digest 33 = .ok (.iconst 1, 1) := by decide +kernel
theorem dX4_digest_34 : decode cX4_digest 34 = .ok (.if_icmp .gt 26, 3) := by decide +kernel
theorem dX4_digest_37 : decode cX4_digest 37 = .ok (.ldc2_w 248, 3) := by decide +kernel
theorem dX4_digest_40 : decode cX4_digest 40 = .ok (.lload_n 1, 1) := by decide +kernel
theorem dX4_digest_41 : decode cX4_digest 41 = .ok (.lmul, 1) := by decide +kernel
theorem dX4_digest_42 : decode cX4_digest 42 = .ok (.aload_n 0, 1) := by decide +kernel
theorem dX4_digest_43 : decode cX4_digest 43 = .ok (.getfield 10, 3) := by decide +kernel
theorem dX4_digest_46 : decode cX4_digest 46 = .ok (.getfield 74, 3) := by decide +kernel
theorem dX4_digest_49 : decode cX4_digest 49 = .ok (.iload_n 3, 1) := by decide +kernel
theorem dX4_digest_50 : decode cX4_digest 50 = .ok (.iaload, 1) := by decide +kernel
theorem dX4_digest_51 : decode cX4_digest 51 = .ok (.i2l, 1) := by decide +kernel
theorem dX4_digest_52 : decode cX4_digest 52 = .ok (.ladd, 1) := by decide +kernel
theorem dX4_digest_53 : decode cX4_digest 53 = .ok (.lstore_n 1, 1) := by decide +kernel
theorem dX4_digest_54 : decode cX4_digest 54 = .ok (.iinc 3 1, 3) := by decide +kernel
theorem dX4_digest_57 : decode cX4_digest 57 = .ok (.goto (-25), 3) := by decide +kernel
theorem dX4_digest_60 : decode cX4_digest 60 = .ok (.iconst 0, 1) := by decide +kernel
theorem dX4_digest_61 : decode cX4_digest 61 = .ok (.istore_n 3, 1) := by decide +kernel
theorem dX4_digest_62 : decode cX4_digest 62 = .ok (.iload_n 3, 1) := by decide +kernel
theorem dX4_digest_63 : decode cX4_digest 63 = .ok (.bipush 63, 2) := by decide +kernel
theorem dX4_digest_65 : decode cX4_digest 65 = .ok (.if_icmp .gt 26, 3) := by decide +kernel
theorem dX4_digest_68 : decode cX4_digest 68 = .ok (.ldc2_w 248, 3) := by decide +kernel
theorem dX4_digest_71 : decode cX4_digest 71 = .ok (.lload_n 1, 1) := by decide +kernel
theorem dX4_digest_72 : decode cX4_digest 72 = .ok (.lmul, 1) := by decide +kernel
theorem dX4_digest_73 : decode cX4_digest 73 = .ok (.aload_n 0, 1) := by decide +kernel
theorem dX4_digest_74 : decode cX4_digest 74 = .ok (.getfield 10, 3) := by decide +kernel
theorem dX4_digest_77 : decode cX4_digest 77 = .ok (.getfield 123, 3) := by decide +kernel
theorem dX4_digest_80 : decode cX4_digest 80 = .ok (.iload_n 3, 1) := by decide +kernel
theorem dX4_digest_81 : decode cX4_digest 81 = .ok (.iaload, 1) := by decide +kernel
theorem dX4_digest_82 : decode cX4_digest 82 = .ok (.i2l, 1) := by decide +kernel
theorem dX4_digest_83 : decode cX4_digest 83 = .ok (.ladd, 1) := by decide +kernel
theorem dX4_digest_84 : decode cX4_digest 84 = .ok (.lstore_n 1, 1) := by decide +kernel
theorem dX4_digest_85 : decode cX4_digest 85 = .ok (.iinc 3 1, 3) := by decide +kernel
theorem dX4_digest_88 : decode cX4_digest 88 = .ok (.goto (-26), 3) := by decide +kernel
theorem dX4_digest_91 : decode cX4_digest 91 = .ok (.iconst 0, 1) := by decide +kernel
theorem dX4_digest_92 : decode cX4_digest 92 = .ok (.istore_n 3, 1) := by decide +kernel
theorem dX4_digest_93 : decode cX4_digest 93 = .ok (.iload_n 3, 1) := by decide +kernel
theorem dX4_digest_94 : decode cX4_digest 94 = .ok (.aload_n 0, 1) := by decide +kernel
theorem dX4_digest_95 : decode cX4_digest 95 = .ok (.getfield 10, 3) := by decide +kernel
theorem dX4_digest_98 : decode cX4_digest 98 = .ok (.getfield 166, 3) := by decide +kernel
theorem dX4_digest_101 : decode cX4_digest 101 = .ok (.if_icmp .ge 26, 3) := by decide +kernel
theorem dX4_digest_104 : decode cX4_digest 104 = .ok (.ldc2_w 248, 3) := by decide +kernel
theorem dX4_digest_107 : decode cX4_digest 107 = .ok (.lload_n 1, 1) := by decide +kernel
theorem dX4_digest_108 : decode cX4_digest 108 = .ok (.lmul, 1) := by decide +kernel
theorem dX4_digest_109 : decode cX4_digest 109 = .ok (.aload_n 0, 1) := by decide +kernel
theorem dX4_digest_110 : decode cX4_digest 110 = .ok (.getfield 10, 3) := by decide +kernel
theorem dX4_digest_113 : decode cX4_digest 113 = .ok (.getfield 169, 3) := by decide +kernel
theorem dX4_digest_116 : decode cX4_digest 116 = .ok (.iload_n 3, 1) := by decide +kernel
theorem dX4_digest_117 : decode cX4_digest 117 = .ok (.iaload, 1) := by decide +kernel
theorem dX4_digest_118 : decode cX4_digest 118 = .ok (.i2l, 1) := by decide +kernel
theorem dX4_digest_119 : decode cX4_digest 119 = .ok (.ladd, 1) := by decide +kernel
theorem dX4_digest_120 : decode cX4_digest 120 = .ok (.lstore_n 1, 1) := by decide +kernel
theorem dX4_digest_121 : decode cX4_digest 121 = .ok (.iinc 3 1, 3) := by decide +kernel
theorem dX4_digest_124 : decode cX4_digest 124 = .ok (.goto (-31), 3) := by decide +kernel
theorem dX4_digest_127 : decode cX4_digest 127 = .ok (.iconst 0, 1) := by decide +kernel
theorem dX4_digest_128 : decode cX4_digest 128 = .ok (.istore_n 3, 1) := by decide +kernel
theorem dX4_digest_129 : decode cX4_digest 129 = .ok (.iload_n 3, 1) := by decide +kernel
theorem dX4_digest_130 : decode cX4_digest 130 = .ok (.aload_n 0, 1) := by decide +kernel
theorem dX4_digest_131 : decode cX4_digest 131 = .ok (.getfield 10, 3) := by decide +kernel
theorem dX4_digest_134 : decode cX4_digest 134 = .ok (.getfield 184, 3) := by decide +kernel
theorem dX4_digest_137 : decode cX4_digest 137 = .ok (.if_icmp .ge 43, 3) := by decide +kernel
theorem dX4_digest_140 : decode cX4_digest 140 = .ok (.ldc2_w 248, 3) := by decide +kernel
theorem dX4_digest_143 : decode cX4_digest 143 = .ok (.lload_n 1, 1) := by decide +kernel
theorem dX4_digest_144 : decode cX4_digest 144 = .ok (.lmul, 1) := by decide +kernel
theorem dX4_digest_145 : decode cX4_digest 145 = .ok (.aload_n 0, 1) := by decide +kernel
theorem dX4_digest_146 : decode cX4_digest 146 = .ok (.getfield 10, 3) := by decide +kernel
theorem dX4_digest_149 : decode cX4_digest 149 = .ok (.getfield 187, 3) := by decide +kernel
theorem dX4_digest_152 : decode cX4_digest 152 = .ok (.iload_n 3, 1) := by decide +kernel
theorem dX4_digest_153 : decode cX4_digest 153 = .ok (.iaload, 1) := by decide +kernel
theorem dX4_digest_154 : decode cX4_digest 154 = .ok (.i2l, 1) := by decide +kernel
theorem dX4_digest_155 : decode cX4_digest 155 = .ok (.ladd, 1) := by decide +kernel
theorem dX4_digest_156 : decode cX4_digest 156 = .ok (.lstore_n 1, 1) := by decide +kernel
theorem dX4_digest_157 : decode cX4_digest 157 = .ok (.ldc2_w 248, 3) := by decide +kernel
theorem dX4_digest_160 : decode cX4_digest 160 = .ok (.lload_n 1, 1) := by decide +kernel
theorem dX4_digest_161 : decode cX4_digest 161 = .ok (.lmul, 1) := by decide +kernel
theorem dX4_digest_162 : decode cX4_digest 162 = .ok (.aload_n 0, 1) := by decide +kernel
theorem dX4_digest_163 : decode cX4_digest 163 = .ok (.getfield 10, 3) := by decide +kernel
theorem dX4_digest_166 : decode cX4_digest 166 = .ok (.getfield 190, 3) := by decide +kernel
theorem dX4_digest_169 : decode cX4_digest 169 = .ok (.iload_n 3, 1) := by decide +kernel
theorem dX4_digest_170 : decode cX4_digest 170 = .ok (.iaload, 1) := by decide +kernel
theorem dX4_digest_171 : decode cX4_digest 171 = .ok (.i2l, 1) := by decide +kernel
theorem dX4_digest_172 : decode cX4_digest 172 = .ok (.ladd, 1) := by decide +kernel
theorem dX4_digest_173 : decode cX4_digest 173 = .ok (.lstore_n 1, 1) := by decide +kernel
theorem dX4_digest_174 : decode cX4_digest 174 = .ok (.iinc 3 1, 3) := by decide +kernel
theorem dX4_digest_177 : decode cX4_digest 177 = .ok (.goto (-48), 3) := by decide +kernel
theorem dX4_digest_180 : decode cX4_digest 180 = .ok (.ldc2_w 248, 3) := by decide +kernel
theorem dX4_digest_183 : decode cX4_digest 183 = .ok (.lload_n 1, 1) := by decide +kernel
theorem dX4_digest_184 : decode cX4_digest 184 = .ok (.lmul, 1) := by decide +kernel
theorem dX4_digest_185 : decode cX4_digest 185 = .ok (.aload_n 0, 1) := by decide +kernel
theorem dX4_digest_186 : decode cX4_digest 186 = .ok (.getfield 34, 3) := by decide +kernel
theorem dX4_digest_189 : decode cX4_digest 189 = .ok (.ladd, 1) := by decide +kernel
theorem dX4_digest_190 : decode cX4_digest 190 = .ok (.lstore_n 1, 1) := by decide +kernel
theorem dX4_digest_191 : decode cX4_digest 191 = .ok (.ldc2_w 248, 3) := by decide +kernel
theorem dX4_digest_194 : decode cX4_digest 194 = .ok (.lload_n 1, 1) := by decide +kernel
theorem dX4_digest_195 : decode cX4_digest 195 = .ok (.lmul, 1) := by decide +kernel
theorem dX4_digest_196 : decode cX4_digest 196 = .ok (.aload_n 0, 1) := by decide +kernel
theorem dX4_digest_197 : decode cX4_digest 197 = .ok (.getfield 38, 3) := by decide +kernel
theorem dX4_digest_200 : decode cX4_digest 200 = .ok (.ladd, 1) := by decide +kernel
theorem dX4_digest_201 : decode cX4_digest 201 = .ok (.lreturn, 1) := by decide +kernel
theorem dX4_refuseBad_0 : decode cX4_refuseBad 0 = .ok (.aload_n 0, 1) := by decide +kernel
theorem dX4_refuseBad_1 : decode cX4_refuseBad 1 = .ok (.dup, 1) := by decide +kernel
theorem dX4_refuseBad_2 : decode cX4_refuseBad 2 = .ok (.getfield 41, 3) := by decide +kernel
theorem dX4_refuseBad_5 : decode cX4_refuseBad 5 = .ok (.iconst 1, 1) := by decide +kernel
theorem dX4_refuseBad_6 : decode cX4_refuseBad 6 = .ok (.iadd, 1) := by decide +kernel
theorem dX4_refuseBad_7 : decode cX4_refuseBad 7 = .ok (.putfield 41, 3) := by decide +kernel
theorem dX4_refuseBad_10 : decode cX4_refuseBad 10 = .ok (.iload_n 1, 1) := by decide +kernel
theorem dX4_refuseBad_11 : decode cX4_refuseBad 11 = .ok (.ireturn, 1) := by decide +kernel
theorem dX4_refuseNo_0 : decode cX4_refuseNo 0 = .ok (.aload_n 0, 1) := by decide +kernel
theorem dX4_refuseNo_1 : decode cX4_refuseNo 1 = .ok (.dup, 1) := by decide +kernel
theorem dX4_refuseNo_2 : decode cX4_refuseNo 2 = .ok (.getfield 45, 3) := by decide +kernel
theorem dX4_refuseNo_5 : decode cX4_refuseNo 5 = .ok (.iconst 1, 1) := by decide +kernel
theorem dX4_refuseNo_6 : decode cX4_refuseNo 6 = .ok (.iadd, 1) := by decide +kernel
theorem dX4_refuseNo_7 : decode cX4_refuseNo 7 = .ok (.putfield 45, 3) := by decide +kernel
theorem dX4_refuseNo_10 : decode cX4_refuseNo 10 = .ok (.bipush (-3), 2) := by decide +kernel
theorem dX4_refuseNo_12 : decode cX4_refuseNo 12 = .ok (.ireturn, 1) := by decide +kernel
theorem dX4_refuseFull_0 : decode cX4_refuseFull 0 = .ok (.aload_n 0, 1) := by decide +kernel
theorem dX4_refuseFull_1 : decode cX4_refuseFull 1 = .ok (.dup, 1) := by decide +kernel
theorem dX4_refuseFull_2 : decode cX4_refuseFull 2 = .ok (.getfield 48, 3) := by decide +kernel
theorem dX4_refuseFull_5 : decode cX4_refuseFull 5 = .ok (.iconst 1, 1) := by decide +kernel
theorem dX4_refuseFull_6 : decode cX4_refuseFull 6 = .ok (.iadd, 1) := by decide +kernel
theorem dX4_refuseFull_7 : decode cX4_refuseFull 7 = .ok (.putfield 48, 3) := by decide +kernel
theorem dX4_refuseFull_10 : decode cX4_refuseFull 10 = .ok (.bipush (-4), 2) := by decide +kernel
theorem dX4_refuseFull_12 : decode cX4_refuseFull 12 = .ok (.ireturn, 1) := by decide +kernel
theorem dX4_within_0 : decode cX4_within 0 = .ok (.iload_n 0, 1) := by decide +kernel
theorem dX4_within_1 : decode cX4_within 1 = .ok (.iload_n 1, 1) := by decide +kernel
theorem dX4_within_2 : decode cX4_within 2 = .ok (.if_icmp .lt 12, 3) := by decide +kernel
theorem dX4_within_5 : decode cX4_within 5 = .ok (.iload_n 0, 1) := by decide +kernel
theorem dX4_within_6 : decode cX4_within 6 = .ok (.iload_n 2, 1) := by decide +kernel
theorem dX4_within_7 : decode cX4_within 7 = .ok (.if_icmp .gt 7, 3) := by decide +kernel
theorem dX4_within_10 : decode cX4_within 10 = .ok (.iconst 1, 1) := by decide +kernel
theorem dX4_within_11 : decode cX4_within 11 = .ok (.goto 4, 3) := by decide +kernel
theorem dX4_within_14 : decode cX4_within 14 = .ok (.iconst 0, 1) := by decide +kernel
theorem dX4_within_15 : decode cX4_within 15 = .ok (.ireturn, 1) := by decide +kernel
theorem dX4_isPlace_0 : decode cX4_isPlace 0 = .ok (.iload_n 0, 1) := by decide +kernel
theorem dX4_isPlace_1 : decode cX4_isPlace 1 = .ok (.iconst 0, 1) := by decide +kernel
theorem dX4_isPlace_2 : decode cX4_isPlace 2 = .ok (.bipush 7, 2) := by decide +kernel
theorem dX4_isPlace_4 : decode cX4_isPlace 4 = .ok (.invokestatic 51, 3) := by decide +kernel
theorem dX4_isPlace_7 : decode cX4_isPlace 7 = .ok (.ifCond .eq 17, 3) := by decide +kernel
theorem dX4_isPlace_10 : decode cX4_isPlace 10 = .ok (.iload_n 1, 1) := by decide +kernel
theorem dX4_isPlace_11 : decode cX4_isPlace 11 = .ok (.iconst 0, 1) := by decide +kernel
theorem dX4_isPlace_12 : decode cX4_isPlace 12 = .ok (.bipush 7, 2) := by decide +kernel
theorem dX4_isPlace_14 : decode cX4_isPlace 14 = .ok (.invokestatic 51, 3) := by decide +kernel
theorem dX4_isPlace_17 : decode cX4_isPlace 17 = .ok (.ifCond .eq 7, 3) := by decide +kernel
theorem dX4_isPlace_20 : decode cX4_isPlace 20 = .ok (.iconst 1, 1) := by decide +kernel
theorem dX4_isPlace_21 : decode cX4_isPlace 21 = .ok (.goto 4, 3) := by decide +kernel
theorem dX4_isPlace_24 : decode cX4_isPlace 24 = .ok (.iconst 0, 1) := by decide +kernel
theorem dX4_isPlace_25 : decode cX4_isPlace 25 = .ok (.ireturn, 1) := by decide +kernel
theorem dX4_isPrint_0 : decode cX4_isPrint 0 = .ok (.iload_n 0, 1) := by decide +kernel
theorem dX4_isPrint_1 : decode cX4_isPrint 1 = .ok (.iconst 0, 1) := by decide +kernel
theorem dX4_isPrint_2 : decode cX4_isPrint 2 = .ok (.iconst 5, 1) := by decide +kernel
theorem dX4_isPrint_3 : decode cX4_isPrint 3 = .ok (.invokestatic 51, 3) := by decide +kernel
theorem dX4_isPrint_6 : decode cX4_isPrint 6 = .ok (.ifCond .eq 34, 3) := by decide +kernel
theorem dX4_isPrint_9 : decode cX4_isPrint 9 = .ok (.iload_n 1, 1) := by decide +kernel
theorem dX4_isPrint_10 : decode cX4_isPrint 10 = .ok (.iconst 0, 1) := by decide +kernel
theorem dX4_isPrint_11 : decode cX4_isPrint 11 = .ok (.iconst 1, 1) := by decide +kernel
theorem dX4_isPrint_12 : decode cX4_isPrint 12 = .ok (.invokestatic 51, 3) := by decide +kernel
theorem dX4_isPrint_15 : decode cX4_isPrint 15 = .ok (.ifCond .eq 25, 3) := by decide +kernel
theorem dX4_isPrint_18 : decode cX4_isPrint 18 = .ok (.iload_n 2, 1) := by decide +kernel
theorem dX4_isPrint_19 : decode cX4_isPrint 19 = .ok (.iload_n 3, 1) := by decide +kernel
theorem dX4_isPrint_20 : decode cX4_isPrint 20 = .ok (.invokestatic 119, 3) := by decide +kernel
theorem dX4_isPrint_23 : decode cX4_isPrint 23 = .ok (.ifCond .eq 17, 3) := by decide +kernel
theorem dX4_isPrint_26 : decode cX4_isPrint 26 = .ok (.iload 4, 2) := by decide +kernel
theorem dX4_isPrint_28 : decode cX4_isPrint 28 = .ok (.iconst 0, 1) := by decide +kernel
theorem dX4_isPrint_29 : decode cX4_isPrint 29 = .ok (.iconst 3, 1) := by decide +kernel
theorem dX4_isPrint_30 : decode cX4_isPrint 30 = .ok (.invokestatic 51, 3) := by decide +kernel
theorem dX4_isPrint_33 : decode cX4_isPrint 33 = .ok (.ifCond .eq 7, 3) := by decide +kernel
theorem dX4_isPrint_36 : decode cX4_isPrint 36 = .ok (.iconst 1, 1) := by decide +kernel
theorem dX4_isPrint_37 : decode cX4_isPrint 37 = .ok (.goto 4, 3) := by decide +kernel
theorem dX4_isPrint_40 : decode cX4_isPrint 40 = .ok (.iconst 0, 1) := by decide +kernel
theorem dX4_isPrint_41 : decode cX4_isPrint 41 = .ok (.ireturn, 1) := by decide +kernel
theorem dX4_isDip_0 : decode cX4_isDip 0 = .ok (.iload_n 0, 1) := by decide +kernel
theorem dX4_isDip_1 : decode cX4_isDip 1 = .ok (.iconst 0, 1) := by decide +kernel
theorem dX4_isDip_2 : decode cX4_isDip 2 = .ok (.iconst 5, 1) := by decide +kernel
theorem dX4_isDip_3 : decode cX4_isDip 3 = .ok (.invokestatic 51, 3) := by decide +kernel
theorem dX4_isDip_6 : decode cX4_isDip 6 = .ok (.ifCond .eq 17, 3) := by decide +kernel
theorem dX4_isDip_9 : decode cX4_isDip 9 = .ok (.iload_n 1, 1) := by decide +kernel
theorem dX4_isDip_10 : decode cX4_isDip 10 = .ok (.iconst 0, 1) := by decide +kernel
theorem dX4_isDip_11 : decode cX4_isDip 11 = .ok (.bipush 12, 2) := by decide +kernel
theorem dX4_isDip_13 : decode cX4_isDip 13 = .ok (.invokestatic 51, 3) := by decide +kernel
theorem dX4_isDip_16 : decode cX4_isDip 16 = .ok (.ifCond .eq 7, 3) := by decide +kernel
theorem dX4_isDip_19 : decode cX4_isDip 19 = .ok (.iconst 1, 1) := by decide +kernel
theorem dX4_isDip_20 : decode cX4_isDip 20 = .ok (.goto 4, 3) := by decide +kernel
theorem dX4_isDip_23 : decode cX4_isDip 23 = .ok (.iconst 0, 1) := by decide +kernel
theorem dX4_isDip_24 : decode cX4_isDip 24 = .ok (.ireturn, 1) := by decide +kernel
theorem dX4_wholePrints_0 : decode cX4_wholePrints 0 = .ok (.iconst 4, 1) := by decide +kernel
theorem dX4_wholePrints_1 : decode cX4_wholePrints 1 = .ok (.iload_n 1, 1) := by decide +kernel
theorem dX4_wholePrints_2 : decode cX4_wholePrints 2 = .ok (.iadd, 1) := by decide +kernel
theorem dX4_wholePrints_3 : decode cX4_wholePrints 3 = .ok (.istore_n 2, 1) := by decide +kernel
theorem dX4_wholePrints_4 : decode cX4_wholePrints 4 = .ok (.iload_n 2, 1) := by decide +kernel
theorem dX4_wholePrints_5 : decode cX4_wholePrints 5 = .ok (.ifCond .le 11, 3) := by decide +kernel
theorem dX4_wholePrints_8 : decode cX4_wholePrints 8 = .ok (.iload_n 0, 1) := by decide +kernel
theorem dX4_wholePrints_9 : decode cX4_wholePrints 9 = .ok (.iload_n 1, 1) := by decide +kernel
theorem dX4_wholePrints_10 : decode cX4_wholePrints 10 = .ok (.iadd, 1) := by decide +kernel
theorem dX4_wholePrints_11 : decode cX4_wholePrints 11 = .ok (.iload_n 2, 1) := by decide +kernel
theorem dX4_wholePrints_12 : decode cX4_wholePrints 12 = .ok (.idiv, 1) := by decide +kernel
theorem dX4_wholePrints_13 : decode cX4_wholePrints 13 = .ok (.goto 4, 3) := by decide +kernel
theorem dX4_wholePrints_16 : decode cX4_wholePrints 16 = .ok (.iconst 0, 1) := by decide +kernel
theorem dX4_wholePrints_17 : decode cX4_wholePrints 17 = .ok (.ireturn, 1) := by decide +kernel
theorem dX4_leftOfEdge_0 : decode cX4_leftOfEdge 0 = .ok (.iload_n 0, 1) := by decide +kernel
theorem dX4_leftOfEdge_1 : decode cX4_leftOfEdge 1 = .ok (.iload_n 1, 1) := by decide +kernel
theorem dX4_leftOfEdge_2 : decode cX4_leftOfEdge 2 = .ok (.invokestatic 150, 3) := by decide +kernel
theorem dX4_leftOfEdge_5 : decode cX4_leftOfEdge 5 = .ok (.istore_n 2, 1) := by decide +kernel
theorem dX4_leftOfEdge_6 : decode cX4_leftOfEdge 6 = .ok (.iload_n 0, 1) := by decide +kernel
theorem dX4_leftOfEdge_7 : decode cX4_leftOfEdge 7 = .ok (.iload_n 1, 1) := by decide +kernel
theorem dX4_leftOfEdge_8 : decode cX4_leftOfEdge 8 = .ok (.iadd, 1) := by decide +kernel
theorem dX4_leftOfEdge_9 : decode cX4_leftOfEdge 9 = .ok (.iload_n 2, 1) := by decide +kernel
theorem dX4_leftOfEdge_10 : decode cX4_leftOfEdge 10 = .ok (.iconst 4, 1) := by decide +kernel
theorem dX4_leftOfEdge_11 : decode cX4_leftOfEdge 11 = .ok (.iload_n 1, 1) := by decide +kernel
theorem dX4_leftOfEdge_12 : decode cX4_leftOfEdge 12 = .ok (.iadd, 1) := by decide +kernel
theorem dX4_leftOfEdge_13 : decode cX4_leftOfEdge 13 = .ok (.imul, 1) := by decide +kernel
theorem dX4_leftOfEdge_14 : decode cX4_leftOfEdge 14 = .ok (.isub, 1) := by decide +kernel
theorem dX4_leftOfEdge_15 : decode cX4_leftOfEdge 15 = .ok (.ireturn, 1) := by decide +kernel
theorem dX4_placeEverywhere_0 : decode cX4_placeEverywhere 0 = .ok (.iconst 0, 1) := by decide +kernel
theorem dX4_placeEverywhere_1 : decode cX4_placeEverywhere 1 = .ok (.istore_n 2, 1) := by decide +kernel
theorem dX4_placeEverywhere_2 : decode cX4_placeEverywhere 2 = .ok (.iload_n 2, 1) := by decide +kernel
theorem dX4_placeEverywhere_3 : decode cX4_placeEverywhere 3 = .ok (.iconst 3, 1) := by decide +kernel
theorem dX4_placeEverywhere_4 : decode cX4_placeEverywhere 4 = .ok (.if_icmp .gt 57, 3) := by decide +kernel
theorem dX4_placeEverywhere_7 : decode cX4_placeEverywhere 7 = .ok (.iload_n 1, 1) := by decide +kernel
theorem dX4_placeEverywhere_8 : decode cX4_placeEverywhere 8 = .ok (.iload_n 2, 1) := by decide +kernel
theorem dX4_placeEverywhere_9 : decode cX4_placeEverywhere 9 = .ok (.invokestatic 126, 3) := by decide +kernel
theorem dX4_placeEverywhere_12 : decode cX4_placeEverywhere 12 = .ok (.istore_n 3, 1) := by decide +kernel
theorem dX4_placeEverywhere_13 : decode cX4_placeEverywhere 13 = .ok (.iconst 0, 1) := by decide +kernel
theorem dX4_placeEverywhere_14 : decode cX4_placeEverywhere 14 = .ok (.istore 4, 2) := by decide +kernel
theorem dX4_placeEverywhere_16 : decode cX4_placeEverywhere 16 = .ok (.iload 4, 2) := by decide +kernel
theorem dX4_placeEverywhere_18 : decode cX4_placeEverywhere 18 = .ok (.bipush 63, 2) := by decide +kernel
theorem dX4_placeEverywhere_20 : decode cX4_placeEverywhere 20 = .ok (.if_icmp .gt 35, 3) := by decide +kernel
theorem dX4_placeEverywhere_23 : decode cX4_placeEverywhere 23 = .ok (.aload_n 0, 1) := by decide +kernel
theorem dX4_placeEverywhere_24 : decode cX4_placeEverywhere 24 = .ok (.getfield 30, 3) := by decide +kernel
theorem dX4_placeEverywhere_27 : decode cX4_placeEverywhere 27 = .ok (.bipush 64, 2) := by decide +kernel
theorem dX4_placeEverywhere_29 : decode cX4_placeEverywhere 29 = .ok (.iload_n 2, 1) := by decide +kernel
theorem dX4_placeEverywhere_30 : decode cX4_placeEverywhere 30 = .ok (.imul, 1) := by decide +kernel
theorem dX4_placeEverywhere_31 : decode cX4_placeEverywhere 31 = .ok (.iload 4, 2) := by decide +kernel
theorem dX4_placeEverywhere_33 : decode cX4_placeEverywhere 33 = .ok (.iadd, 1) := by decide +kernel
theorem dX4_placeEverywhere_34 : decode cX4_placeEverywhere 34 = .ok (.iload_n 3, 1) := by decide +kernel
theorem dX4_placeEverywhere_35 : decode cX4_placeEverywhere 35 = .ok (.iload 4, 2) := by decide +kernel
theorem dX4_placeEverywhere_37 : decode cX4_placeEverywhere 37 = .ok (.bipush 8, 2) := by decide +kernel
theorem dX4_placeEverywhere_39 : decode cX4_placeEverywhere 39 = .ok (.irem, 1) := by decide +kernel
theorem dX4_placeEverywhere_40 : decode cX4_placeEverywhere 40 = .ok (.iload 4, 2) := by decide +kernel
theorem dX4_placeEverywhere_42 : decode cX4_placeEverywhere 42 = .ok (.bipush 8, 2) := by decide +kernel
theorem dX4_placeEverywhere_44 : decode cX4_placeEverywhere 44 = .ok (.idiv, 1) := by decide +kernel
theorem dX4_placeEverywhere_45 : decode cX4_placeEverywhere 45 = .ok (.invokestatic 216, 3) := by decide +kernel
theorem dX4_placeEverywhere_48 : decode cX4_placeEverywhere 48 = .ok (.lastore, 1) := by decide +kernel
theorem dX4_placeEverywhere_49 : decode cX4_placeEverywhere 49 = .ok (.iinc 4 1, 3) := by decide +kernel
theorem dX4_placeEverywhere_52 : decode cX4_placeEverywhere 52 = .ok (.goto (-36), 3) := by decide +kernel
theorem dX4_placeEverywhere_55 : decode cX4_placeEverywhere 55 = .ok (.iinc 2 1, 3) := by decide +kernel
theorem dX4_placeEverywhere_58 : decode cX4_placeEverywhere 58 = .ok (.goto (-56), 3) := by decide +kernel
theorem dX4_placeEverywhere_61 : decode cX4_placeEverywhere 61 = .ok (.return_, 1) := by decide +kernel
theorem dX4_placingNumber_0 : decode cX4_placingNumber 0 = .ok (.bipush 100, 2) := by decide +kernel
theorem dX4_placingNumber_2 : decode cX4_placingNumber 2 = .ok (.iload_n 0, 1) := by decide +kernel
theorem dX4_placingNumber_3 : decode cX4_placingNumber 3 = .ok (.bipush 64, 2) := by decide +kernel
theorem dX4_placingNumber_5 : decode cX4_placingNumber 5 = .ok (.idiv, 1) := by decide +kernel
theorem dX4_placingNumber_6 : decode cX4_placingNumber 6 = .ok (.imul, 1) := by decide +kernel
theorem dX4_placingNumber_7 : decode cX4_placingNumber 7 = .ok (.bipush 10, 2) := by decide +kernel
theorem dX4_placingNumber_9 : decode cX4_placingNumber 9 = .ok (.iload_n 0, 1) := by decide +kernel
theorem dX4_placingNumber_10 : decode cX4_placingNumber 10 = .ok (.bipush 8, 2) := by decide +kernel
theorem dX4_placingNumber_12 : decode cX4_placingNumber 12 = .ok (.idiv, 1) := by decide +kernel
theorem dX4_placingNumber_13 : decode cX4_placingNumber 13 = .ok (.bipush 8, 2) := by decide +kernel
theorem dX4_placingNumber_15 : decode cX4_placingNumber 15 = .ok (.irem, 1) := by decide +kernel
theorem dX4_placingNumber_16 : decode cX4_placingNumber 16 = .ok (.imul, 1) := by decide +kernel
theorem dX4_placingNumber_17 : decode cX4_placingNumber 17 = .ok (.iadd, 1) := by decide +kernel
theorem dX4_placingNumber_18 : decode cX4_placingNumber 18 = .ok (.iload_n 0, 1) := by decide +kernel
theorem dX4_placingNumber_19 : decode cX4_placingNumber 19 = .ok (.bipush 8, 2) := by decide +kernel
theorem dX4_placingNumber_21 : decode cX4_placingNumber 21 = .ok (.irem, 1) := by decide +kernel
theorem dX4_placingNumber_22 : decode cX4_placingNumber 22 = .ok (.iadd, 1) := by decide +kernel
theorem dX4_placingNumber_23 : decode cX4_placingNumber 23 = .ok (.ireturn, 1) := by decide +kernel
theorem dX4_isWhollyOnSheet_0 : decode cX4_isWhollyOnSheet 0 = .ok (.iload_n 0, 1) := by decide +kernel
theorem dX4_isWhollyOnSheet_1 : decode cX4_isWhollyOnSheet 1 = .ok (.bipush 8, 2) := by decide +kernel
theorem dX4_isWhollyOnSheet_3 : decode cX4_isWhollyOnSheet 3 = .ok (.idiv, 1) := by decide +kernel
theorem dX4_isWhollyOnSheet_4 : decode cX4_isWhollyOnSheet 4 = .ok (.bipush 8, 2) := by decide +kernel
theorem dX4_isWhollyOnSheet_6 : decode cX4_isWhollyOnSheet 6 = .ok (.irem, 1) := by decide +kernel
theorem dX4_isWhollyOnSheet_7 : decode cX4_isWhollyOnSheet 7 = .ok (.iconst 4, 1) := by decide +kernel
theorem dX4_isWhollyOnSheet_8 : decode cX4_isWhollyOnSheet 8 = .ok (.if_icmp .gt 15, 3) := by decide +kernel
theorem dX4_isWhollyOnSheet_11 : decode cX4_isWhollyOnSheet 11 = .ok (.iload_n 0, 1) := by decide +kernel
theorem dX4_isWhollyOnSheet_12 : decode cX4_isWhollyOnSheet 12 = .ok (.bipush 8, 2) := by decide +kernel
theorem dX4_isWhollyOnSheet_14 : decode cX4_isWhollyOnSheet 14 = .ok (.irem, 1) := by decide +kernel
theorem dX4_isWhollyOnSheet_15 : decode cX4_isWhollyOnSheet 15 = .ok (.iconst 4, 1) := by decide +kernel
theorem dX4_isWhollyOnSheet_16 : decode cX4_isWhollyOnSheet 16 = .ok (.if_icmp .gt 7, 3) := by decide +kernel
theorem dX4_isWhollyOnSheet_19 : decode cX4_isWhollyOnSheet 19 = .ok (.iconst 1, 1) := by decide +kernel
theorem dX4_isWhollyOnSheet_20 : decode cX4_isWhollyOnSheet 20 = .ok (.goto 4, 3) := by decide +kernel
theorem dX4_isWhollyOnSheet_23 : decode cX4_isWhollyOnSheet 23 = .ok (.iconst 0, 1) := by decide +kernel
theorem dX4_isWhollyOnSheet_24 : decode cX4_isWhollyOnSheet 24 = .ok (.ireturn, 1) := by decide +kernel
theorem dX4_firstCovering_0 : decode cX4_firstCovering 0 = .ok (.iconst 0, 1) := by decide +kernel
theorem dX4_firstCovering_1 : decode cX4_firstCovering 1 = .ok (.istore_n 3, 1) := by decide +kernel
theorem dX4_firstCovering_2 : decode cX4_firstCovering 2 = .ok (.iload_n 3, 1) := by decide +kernel
theorem dX4_firstCovering_3 : decode cX4_firstCovering 3 = .ok (.sipush 256, 3) := by decide +kernel
theorem dX4_firstCovering_6 : decode cX4_firstCovering 6 = .ok (.if_icmp .ge 31, 3) := by decide +kernel
theorem dX4_firstCovering_9 : decode cX4_firstCovering 9 = .ok (.lload_n 1, 1) := by decide +kernel
theorem dX4_firstCovering_10 : decode cX4_firstCovering 10 = .ok (.aload_n 0, 1) := by decide +kernel
theorem dX4_firstCovering_11 : decode cX4_firstCovering 11 = .ok (.getfield 30, 3) := by decide +kernel
theorem dX4_firstCovering_14 : decode cX4_firstCovering 14 = .ok (.iload_n 3, 1) := by decide +kernel
theorem dX4_firstCovering_15 : decode cX4_firstCovering 15 = .ok (.laload, 1) := by decide +kernel
theorem dX4_firstCovering_16 : decode cX4_firstCovering 16 = .ok (.ldc2_w 219, 3) := by decide +kernel
theorem dX4_firstCovering_19 : decode cX4_firstCovering 19 = .ok (.lxor, 1) := by decide +kernel
theorem dX4_firstCovering_20 : decode cX4_firstCovering 20 = .ok (.land, 1) := by decide +kernel
theorem dX4_firstCovering_21 : decode cX4_firstCovering 21 = .ok (.lconst 0, 1) := by decide +kernel
theorem dX4_firstCovering_22 : decode cX4_firstCovering 22 = .ok (.lcmp, 1) := by decide +kernel
theorem dX4_firstCovering_23 : decode cX4_firstCovering 23 = .ok (.ifCond .ne 8, 3) := by decide +kernel
theorem dX4_firstCovering_26 : decode cX4_firstCovering 26 = .ok (.iload_n 3, 1) := by decide +kernel
theorem dX4_firstCovering_27 : decode cX4_firstCovering 27 = .ok (.invokestatic 163, 3) := by decide +kernel
theorem dX4_firstCovering_30 : decode cX4_firstCovering 30 = .ok (.ireturn, 1) := by decide +kernel
theorem dX4_firstCovering_31 : decode cX4_firstCovering 31 = .ok (.iinc 3 1, 3) := by decide +kernel
theorem dX4_firstCovering_34 : decode cX4_firstCovering 34 = .ok (.goto (-32), 3) := by decide +kernel
theorem dX4_firstCovering_37 : decode cX4_firstCovering 37 = .ok (.iconst (-1), 1) := by decide +kernel
theorem dX4_firstCovering_38 : decode cX4_firstCovering 38 = .ok (.ireturn, 1) := by decide +kernel
theorem dX4_firstOfTwoCovering_0 : decode cX4_firstOfTwoCovering 0 = .ok (.iconst 0, 1) := by decide +kernel
theorem dX4_firstOfTwoCovering_1 : decode cX4_firstOfTwoCovering 1 = .ok (.istore_n 3, 1) := by decide +kernel
theorem dX4_firstOfTwoCovering_2 : decode cX4_firstOfTwoCovering 2 = .ok (.iload_n 3, 1) := by decide +kernel
theorem dX4_firstOfTwoCovering_3 : decode cX4_firstOfTwoCovering 3 = .ok (.sipush 256, 3) := by decide +kernel
theorem dX4_firstOfTwoCovering_6 : decode cX4_firstOfTwoCovering 6 = .ok (.if_icmp .ge 47, 3) := by decide +kernel
theorem dX4_firstOfTwoCovering_9 : decode cX4_firstOfTwoCovering 9 = .ok (.lload_n 1, 1) := by decide +kernel
theorem dX4_firstOfTwoCovering_10 : decode cX4_firstOfTwoCovering 10 = .ok (.aload_n 0, 1) := by decide +kernel
theorem dX4_firstOfTwoCovering_11 : decode cX4_firstOfTwoCovering 11 = .ok (.getfield 30, 3) := by decide +kernel
theorem dX4_firstOfTwoCovering_14 : decode cX4_firstOfTwoCovering 14 = .ok (.iload_n 3, 1) := by decide +kernel
theorem dX4_firstOfTwoCovering_15 : decode cX4_firstOfTwoCovering 15 = .ok (.laload, 1) := by decide +kernel
theorem dX4_firstOfTwoCovering_16 : decode cX4_firstOfTwoCovering 16 = .ok (.land, 1) := by decide +kernel
theorem dX4_firstOfTwoCovering_17 : decode cX4_firstOfTwoCovering 17 = .ok (.lconst 0, 1) := by decide +kernel
theorem dX4_firstOfTwoCovering_18 : decode cX4_firstOfTwoCovering 18 = .ok (.lcmp, 1) := by decide +kernel
theorem dX4_firstOfTwoCovering_19 : decode cX4_firstOfTwoCovering 19 = .ok (.ifCond .eq 28, 3) := by decide +kernel
theorem dX4_firstOfTwoCovering_22 : decode cX4_firstOfTwoCovering 22 = .ok (.aload_n 0, 1) := by decide +kernel
theorem dX4_firstOfTwoCovering_23 : decode cX4_firstOfTwoCovering 23 = .ok (.lload_n 1, 1) := by decide +kernel
theorem dX4_firstOfTwoCovering_24 : decode cX4_firstOfTwoCovering 24 = .ok (.aload_n 0, 1) := by decide +kernel
theorem dX4_firstOfTwoCovering_25 : decode cX4_firstOfTwoCovering 25 = .ok (.getfield 30, 3) := by decide +kernel
theorem dX4_firstOfTwoCovering_28 : decode cX4_firstOfTwoCovering 28 = .ok (.iload_n 3, 1) := by decide +kernel
theorem dX4_firstOfTwoCovering_29 : decode cX4_firstOfTwoCovering 29 = .ok (.laload, 1) := by decide +kernel
theorem dX4_firstOfTwoCovering_30 : decode cX4_firstOfTwoCovering 30 = .ok (.ldc2_w 219, 3) := by decide +kernel
theorem dX4_firstOfTwoCovering_33 : decode cX4_firstOfTwoCovering 33 = .ok (.lxor, 1) := by decide +kernel
theorem dX4_firstOfTwoCovering_34 : decode cX4_firstOfTwoCovering 34 = .ok (.land, 1) := by decide +kernel
theorem dX4_firstOfTwoCovering_35 : decode cX4_firstOfTwoCovering 35 = .ok (.invokevirtual 175, 3) := by decide +kernel
theorem dX4_firstOfTwoCovering_38 : decode cX4_firstOfTwoCovering 38 = .ok (.iconst (-1), 1) := by decide +kernel
theorem dX4_firstOfTwoCovering_39 : decode cX4_firstOfTwoCovering 39 = .ok (.if_icmp .eq 8, 3) := by decide +kernel
theorem dX4_firstOfTwoCovering_42 : decode cX4_firstOfTwoCovering 42 = .ok (.iload_n 3, 1) := by decide +kernel
theorem dX4_firstOfTwoCovering_43 : decode cX4_firstOfTwoCovering 43 = .ok (.invokestatic 163, 3) := by decide +kernel
theorem dX4_firstOfTwoCovering_46 : decode cX4_firstOfTwoCovering 46 = .ok (.ireturn, 1) := by decide +kernel
theorem dX4_firstOfTwoCovering_47 : decode cX4_firstOfTwoCovering 47 = .ok (.iinc 3 1, 3) := by decide +kernel
theorem dX4_firstOfTwoCovering_50 : decode cX4_firstOfTwoCovering 50 = .ok (.goto (-48), 3) := by decide +kernel
theorem dX4_firstOfTwoCovering_53 : decode cX4_firstOfTwoCovering 53 = .ok (.iconst (-1), 1) := by decide +kernel
theorem dX4_firstOfTwoCovering_54 : decode cX4_firstOfTwoCovering 54 = .ok (.ireturn, 1) := by decide +kernel
theorem dX4_fits_0 : decode cX4_fits 0 = .ok (.lload_n 2, 1) := by decide +kernel
theorem dX4_fits_1 : decode cX4_fits 1 = .ok (.lload_n 0, 1) := by decide +kernel
theorem dX4_fits_2 : decode cX4_fits 2 = .ok (.ldc2_w 219, 3) := by decide +kernel
theorem dX4_fits_5 : decode cX4_fits 5 = .ok (.lxor, 1) := by decide +kernel
theorem dX4_fits_6 : decode cX4_fits 6 = .ok (.land, 1) := by decide +kernel
theorem dX4_fits_7 : decode cX4_fits 7 = .ok (.lconst 0, 1) := by decide +kernel
theorem dX4_fits_8 : decode cX4_fits 8 = .ok (.lcmp, 1) := by decide +kernel
theorem dX4_fits_9 : decode cX4_fits 9 = .ok (.ifCond .ne 16, 3) := by decide +kernel
theorem dX4_fits_12 : decode cX4_fits 12 = .ok (.lload 4, 2) := by decide +kernel
theorem dX4_fits_14 : decode cX4_fits 14 = .ok (.lload_n 0, 1) := by decide +kernel
theorem dX4_fits_15 : decode cX4_fits 15 = .ok (.land, 1) := by decide +kernel
theorem dX4_fits_16 : decode cX4_fits 16 = .ok (.lconst 0, 1) := by decide +kernel
theorem dX4_fits_17 : decode cX4_fits 17 = .ok (.lcmp, 1) := by decide +kernel
theorem dX4_fits_18 : decode cX4_fits 18 = .ok (.ifCond .ne 7, 3) := by decide +kernel
theorem dX4_fits_21 : decode cX4_fits 21 = .ok (.iconst 1, 1) := by decide +kernel
theorem dX4_fits_22 : decode cX4_fits 22 = .ok (.goto 4, 3) := by decide +kernel
theorem dX4_fits_25 : decode cX4_fits 25 = .ok (.iconst 0, 1) := by decide +kernel
theorem dX4_fits_26 : decode cX4_fits 26 = .ok (.ireturn, 1) := by decide +kernel
theorem dX4_keepFitting_0 : decode cX4_keepFitting 0 = .ok (.aload_n 0, 1) := by decide +kernel
theorem dX4_keepFitting_1 : decode cX4_keepFitting 1 = .ok (.getfield 10, 3) := by decide +kernel
theorem dX4_keepFitting_4 : decode cX4_keepFitting 4 = .ok (.iconst 1, 1) := by decide +kernel
theorem dX4_keepFitting_5 : decode cX4_keepFitting 5 = .ok (.invokevirtual 193, 3) := by decide +kernel
theorem dX4_keepFitting_8 : decode cX4_keepFitting 8 = .ok (.lstore_n 1, 1) := by decide +kernel
theorem dX4_keepFitting_9 : decode cX4_keepFitting 9 = .ok (.aload_n 0, 1) := by decide +kernel
theorem dX4_keepFitting_10 : decode cX4_keepFitting 10 = .ok (.getfield 10, 3) := by decide +kernel
theorem dX4_keepFitting_13 : decode cX4_keepFitting 13 = .ok (.iconst 0, 1) := by decide +kernel
theorem dX4_keepFitting_14 : decode cX4_keepFitting 14 = .ok (.invokevirtual 193, 3) := by decide +kernel
theorem dX4_keepFitting_17 : decode cX4_keepFitting 17 = .ok (.lstore_n 3, 1) := by decide +kernel
theorem dX4_keepFitting_18 : decode cX4_keepFitting 18 = .ok (.iconst 0, 1) := by decide +kernel
theorem dX4_keepFitting_19 : decode cX4_keepFitting 19 = .ok (.istore 5, 2) := by decide +kernel
theorem dX4_keepFitting_21 : decode cX4_keepFitting 21 = .ok (.iconst 0, 1) := by decide +kernel
theorem dX4_keepFitting_22 : decode cX4_keepFitting 22 = .ok (.istore 6, 2) := by decide +kernel
theorem dX4_keepFitting_24 : decode cX4_keepFitting 24 = .ok (.iload 6, 2) := by decide +kernel
theorem dX4_keepFitting_26 : decode cX4_keepFitting 26 = .ok (.sipush 256, 3) := by decide +kernel
theorem dX4_keepFitting_29 : decode cX4_keepFitting 29 = .ok (.if_icmp .ge 41, 3) := by decide +kernel
theorem dX4_keepFitting_32 : decode cX4_keepFitting 32 = .ok (.aload_n 0, 1) := by decide +kernel
theorem dX4_keepFitting_33 : decode cX4_keepFitting 33 = .ok (.getfield 30, 3) := by decide +kernel
theorem dX4_keepFitting_36 : decode cX4_keepFitting 36 = .ok (.iload 6, 2) := by decide +kernel
theorem dX4_keepFitting_38 : decode cX4_keepFitting 38 = .ok (.laload, 1) := by decide +kernel
theorem dX4_keepFitting_39 : decode cX4_keepFitting 39 = .ok (.lload_n 1, 1) := by decide +kernel
theorem dX4_keepFitting_40 : decode cX4_keepFitting 40 = .ok (.lload_n 3, 1) := by decide +kernel
theorem dX4_keepFitting_41 : decode cX4_keepFitting 41 = .ok (.invokestatic 197, 3) := by decide +kernel
theorem dX4_keepFitting_44 : decode cX4_keepFitting 44 = .ok (.ifCond .eq 20, 3) := by decide +kernel
theorem dX4_keepFitting_47 : decode cX4_keepFitting 47 = .ok (.aload_n 0, 1) := by decide +kernel
theorem dX4_keepFitting_48 : decode cX4_keepFitting 48 = .ok (.getfield 30, 3) := by decide +kernel
theorem dX4_keepFitting_51 : decode cX4_keepFitting 51 = .ok (.iload 5, 2) := by decide +kernel
theorem dX4_keepFitting_53 : decode cX4_keepFitting 53 = .ok (.aload_n 0, 1) := by decide +kernel
theorem dX4_keepFitting_54 : decode cX4_keepFitting 54 = .ok (.getfield 30, 3) := by decide +kernel
theorem dX4_keepFitting_57 : decode cX4_keepFitting 57 = .ok (.iload 6, 2) := by decide +kernel
theorem dX4_keepFitting_59 : decode cX4_keepFitting 59 = .ok (.laload, 1) := by decide +kernel
theorem dX4_keepFitting_60 : decode cX4_keepFitting 60 = .ok (.lastore, 1) := by decide +kernel
theorem dX4_keepFitting_61 : decode cX4_keepFitting 61 = .ok (.iinc 5 1, 3) := by decide +kernel
theorem dX4_keepFitting_64 : decode cX4_keepFitting 64 = .ok (.iinc 6 1, 3) := by decide +kernel
theorem dX4_keepFitting_67 : decode cX4_keepFitting 67 = .ok (.goto (-43), 3) := by decide +kernel
theorem dX4_keepFitting_70 : decode cX4_keepFitting 70 = .ok (.iload 5, 2) := by decide +kernel
theorem dX4_keepFitting_72 : decode cX4_keepFitting 72 = .ok (.ireturn, 1) := by decide +kernel
theorem dX4_howManyInk_0 : decode cX4_howManyInk 0 = .ok (.iconst 0, 1) := by decide +kernel
theorem dX4_howManyInk_1 : decode cX4_howManyInk 1 = .ok (.istore_n 3, 1) := by decide +kernel
theorem dX4_howManyInk_2 : decode cX4_howManyInk 2 = .ok (.iconst 0, 1) := by decide +kernel
theorem dX4_howManyInk_3 : decode cX4_howManyInk 3 = .ok (.istore 4, 2) := by decide +kernel
theorem dX4_howManyInk_5 : decode cX4_howManyInk 5 = .ok (.iload 4, 2) := by decide +kernel
theorem dX4_howManyInk_7 : decode cX4_howManyInk 7 = .ok (.iload_n 2, 1) := by decide +kernel
theorem dX4_howManyInk_8 : decode cX4_howManyInk 8 = .ok (.if_icmp .ge 36, 3) := by decide +kernel
theorem dX4_howManyInk_11 : decode cX4_howManyInk 11 = .ok (.iload 4, 2) := by decide +kernel
theorem dX4_howManyInk_13 : decode cX4_howManyInk 13 = .ok (.sipush 256, 3) := by decide +kernel
theorem dX4_howManyInk_16 : decode cX4_howManyInk 16 = .ok (.if_icmp .ge 28, 3) := by decide +kernel
theorem dX4_howManyInk_19 : decode cX4_howManyInk 19 = .ok (.aload_n 0, 1) := by decide +kernel
theorem dX4_howManyInk_20 : decode cX4_howManyInk 20 = .ok (.getfield 30, 3) := by decide +kernel
theorem dX4_howManyInk_23 : decode cX4_howManyInk 23 = .ok (.iload 4, 2) := by decide +kernel
theorem dX4_howManyInk_25 : decode cX4_howManyInk 25 = .ok (.laload, 1) := by decide +kernel
theorem dX4_howManyInk_26 : decode cX4_howManyInk 26 = .ok (.iload_n 1, 1) := by decide +kernel
theorem dX4_howManyInk_27 : decode cX4_howManyInk 27 = .ok (.lushr, 1) := by decide +kernel
theorem dX4_howManyInk_28 : decode cX4_howManyInk 28 = .ok (.lconst 1, 1) := by decide +kernel
theorem dX4_howManyInk_29 : decode cX4_howManyInk 29 = .ok (.land, 1) := by decide +kernel
theorem dX4_howManyInk_30 : decode cX4_howManyInk 30 = .ok (.lconst 1, 1) := by decide +kernel
theorem dX4_howManyInk_31 : decode cX4_howManyInk 31 = .ok (.lcmp, 1) := by decide +kernel
theorem dX4_howManyInk_32 : decode cX4_howManyInk 32 = .ok (.ifCond .ne 6, 3) := by decide +kernel
theorem dX4_howManyInk_35 : decode cX4_howManyInk 35 = .ok (.iinc 3 1, 3) := by decide +kernel
theorem dX4_howManyInk_38 : decode cX4_howManyInk 38 = .ok (.iinc 4 1, 3) := by decide +kernel
theorem dX4_howManyInk_41 : decode cX4_howManyInk 41 = .ok (.goto (-36), 3) := by decide +kernel
theorem dX4_howManyInk_44 : decode cX4_howManyInk 44 = .ok (.iload_n 3, 1) := by decide +kernel
theorem dX4_howManyInk_45 : decode cX4_howManyInk 45 = .ok (.ireturn, 1) := by decide +kernel
theorem dX4_cutAway_0 : decode cX4_cutAway 0 = .ok (.aload_n 0, 1) := by decide +kernel
theorem dX4_cutAway_1 : decode cX4_cutAway 1 = .ok (.getfield 10, 3) := by decide +kernel
theorem dX4_cutAway_4 : decode cX4_cutAway 4 = .ok (.iconst 0, 1) := by decide +kernel
theorem dX4_cutAway_5 : decode cX4_cutAway 5 = .ok (.invokevirtual 193, 3) := by decide +kernel
theorem dX4_cutAway_8 : decode cX4_cutAway 8 = .ok (.lstore 5, 2) := by decide +kernel
theorem dX4_cutAway_10 : decode cX4_cutAway 10 = .ok (.iconst 0, 1) := by decide +kernel
theorem dX4_cutAway_11 : decode cX4_cutAway 11 = .ok (.istore 7, 2) := by decide +kernel
theorem dX4_cutAway_13 : decode cX4_cutAway 13 = .ok (.iconst 0, 1) := by decide +kernel
theorem dX4_cutAway_14 : decode cX4_cutAway 14 = .ok (.istore 8, 2) := by decide +kernel
theorem dX4_cutAway_16 : decode cX4_cutAway 16 = .ok (.iload 8, 2) := by decide +kernel
theorem dX4_cutAway_18 : decode cX4_cutAway 18 = .ok (.bipush 16, 2) := by decide +kernel
theorem dX4_cutAway_20 : decode cX4_cutAway 20 = .ok (.if_icmp .ge 44, 3) := by decide +kernel
theorem dX4_cutAway_23 : decode cX4_cutAway 23 = .ok (.iload_n 1, 1) := by decide +kernel
theorem dX4_cutAway_24 : decode cX4_cutAway 24 = .ok (.iconst 1, 1) := by decide +kernel
theorem dX4_cutAway_25 : decode cX4_cutAway 25 = .ok (.iload 8, 2) := by decide +kernel
theorem dX4_cutAway_27 : decode cX4_cutAway 27 = .ok (.ishl, 1) := by decide +kernel
theorem dX4_cutAway_28 : decode cX4_cutAway 28 = .ok (.iand, 1) := by decide +kernel
theorem dX4_cutAway_29 : decode cX4_cutAway 29 = .ok (.istore 9, 2) := by decide +kernel
theorem dX4_cutAway_31 : decode cX4_cutAway 31 = .ok (.iload 9, 2) := by decide +kernel
theorem dX4_cutAway_33 : decode cX4_cutAway 33 = .ok (.iload 4, 2) := by decide +kernel
theorem dX4_cutAway_35 : decode cX4_cutAway 35 = .ok (.invokestatic 126, 3) := by decide +kernel
theorem dX4_cutAway_38 : decode cX4_cutAway 38 = .ok (.iload_n 2, 1) := by decide +kernel
theorem dX4_cutAway_39 : decode cX4_cutAway 39 = .ok (.iload_n 3, 1) := by decide +kernel
theorem dX4_cutAway_40 : decode cX4_cutAway 40 = .ok (.invokestatic 216, 3) := by decide +kernel
theorem dX4_cutAway_43 : decode cX4_cutAway 43 = .ok (.lload 5, 2) := by decide +kernel
theorem dX4_cutAway_45 : decode cX4_cutAway 45 = .ok (.land, 1) := by decide +kernel
theorem dX4_cutAway_46 : decode cX4_cutAway 46 = .ok (.lconst 0, 1) := by decide +kernel
theorem dX4_cutAway_47 : decode cX4_cutAway 47 = .ok (.lcmp, 1) := by decide +kernel
theorem dX4_cutAway_48 : decode cX4_cutAway 48 = .ok (.ifCond .eq 10, 3) := by decide +kernel
theorem dX4_cutAway_51 : decode cX4_cutAway 51 = .ok (.iload 7, 2) := by decide +kernel
theorem dX4_cutAway_53 : decode cX4_cutAway 53 = .ok (.iload 9, 2) := by decide +kernel
theorem dX4_cutAway_55 : decode cX4_cutAway 55 = .ok (.ior, 1) := by decide +kernel
theorem dX4_cutAway_56 : decode cX4_cutAway 56 = .ok (.istore 7, 2) := by decide +kernel
theorem dX4_cutAway_58 : decode cX4_cutAway 58 = .ok (.iinc 8 1, 3) := by decide +kernel
theorem dX4_cutAway_61 : decode cX4_cutAway 61 = .ok (.goto (-45), 3) := by decide +kernel
theorem dX4_cutAway_64 : decode cX4_cutAway 64 = .ok (.iload 7, 2) := by decide +kernel
theorem dX4_cutAway_66 : decode cX4_cutAway 66 = .ok (.ireturn, 1) := by decide +kernel
theorem dX4_setFraction_0 : decode cX4_setFraction 0 = .ok (.lload_n 3, 1) := by decide +kernel
theorem dX4_setFraction_1 : decode cX4_setFraction 1 = .ok (.lstore 5, 2) := by decide +kernel
theorem dX4_setFraction_3 : decode cX4_setFraction 3 = .ok (.lload_n 1, 1) := by decide +kernel
theorem dX4_setFraction_4 : decode cX4_setFraction 4 = .ok (.lstore 7, 2) := by decide +kernel
theorem dX4_setFraction_6 : decode cX4_setFraction 6 = .ok (.iconst 0, 1) := by decide +kernel
theorem dX4_setFraction_7 : decode cX4_setFraction 7 = .ok (.istore 9, 2) := by decide +kernel
theorem dX4_setFraction_9 : decode cX4_setFraction 9 = .ok (.iload 9, 2) := by decide +kernel
theorem dX4_setFraction_11 : decode cX4_setFraction 11 = .ok (.bipush 100, 2) := by decide +kernel
theorem dX4_setFraction_13 : decode cX4_setFraction 13 = .ok (.if_icmp .ge 31, 3) := by decide +kernel
theorem dX4_setFraction_16 : decode cX4_setFraction 16 = .ok (.lload 7, 2) := by decide +kernel
theorem dX4_setFraction_18 : decode cX4_setFraction 18 = .ok (.lconst 0, 1) := by decide +kernel
theorem dX4_setFraction_19 : decode cX4_setFraction 19 = .ok (.lcmp, 1) := by decide +kernel
theorem dX4_setFraction_20 : decode cX4_setFraction 20 = .ok (.ifCond .le 24, 3) := by decide +kernel
theorem dX4_setFraction_23 : decode cX4_setFraction 23 = .ok (.lload 5, 2) := by decide +kernel
theorem dX4_setFraction_25 : decode cX4_setFraction 25 = .ok (.lload 7, 2) := by decide +kernel
theorem dX4_setFraction_27 : decode cX4_setFraction 27 = .ok (.lrem, 1) := by decide +kernel
theorem dX4_setFraction_28 : decode cX4_setFraction 28 = .ok (.lstore 10, 2) := by decide +kernel
theorem dX4_setFraction_30 : decode cX4_setFraction 30 = .ok (.lload 7, 2) := by decide +kernel
theorem dX4_setFraction_32 : decode cX4_setFraction 32 = .ok (.lstore 5, 2) := by decide +kernel
theorem dX4_setFraction_34 : decode cX4_setFraction 34 = .ok (.lload 10, 2) := by decide +kernel
theorem dX4_setFraction_36 : decode cX4_setFraction 36 = .ok (.lstore 7, 2) := by decide +kernel
theorem dX4_setFraction_38 : decode cX4_setFraction 38 = .ok (.iinc 9 1, 3) := by decide +kernel
theorem dX4_setFraction_41 : decode cX4_setFraction 41 = .ok (.goto (-32), 3) := by decide +kernel
theorem dX4_setFraction_44 : decode cX4_setFraction 44 = .ok (.lload 5, 2) := by decide +kernel
theorem dX4_setFraction_46 : decode cX4_setFraction 46 = .ok (.lconst 0, 1) := by decide +kernel
theorem dX4_setFraction_47 : decode cX4_setFraction 47 = .ok (.lcmp, 1) := by decide +kernel
theorem dX4_setFraction_48 : decode cX4_setFraction 48 = .ok (.ifCond .le 19, 3) := by decide +kernel
theorem dX4_setFraction_51 : decode cX4_setFraction 51 = .ok (.aload_n 0, 1) := by decide +kernel
theorem dX4_setFraction_52 : decode cX4_setFraction 52 = .ok (.lload_n 1, 1) := by decide +kernel
theorem dX4_setFraction_53 : decode cX4_setFraction 53 = .ok (.lload 5, 2) := by decide +kernel
theorem dX4_setFraction_55 : decode cX4_setFraction 55 = .ok (.ldiv, 1) := by decide +kernel
theorem dX4_setFraction_56 : decode cX4_setFraction 56 = .ok (.putfield 34, 3) := by decide +kernel
theorem dX4_setFraction_59 : decode cX4_setFraction 59 = .ok (.aload_n 0, 1) := by decide +kernel
theorem dX4_setFraction_60 : decode cX4_setFraction 60 = .ok (.lload_n 3, 1) := by decide +kernel
theorem dX4_setFraction_61 : decode cX4_setFraction 61 = .ok (.lload 5, 2) := by decide +kernel
theorem dX4_setFraction_63 : decode cX4_setFraction 63 = .ok (.ldiv, 1) := by decide +kernel
theorem dX4_setFraction_64 : decode cX4_setFraction 64 = .ok (.putfield 38, 3) := by decide +kernel
theorem dX4_setFraction_67 : decode cX4_setFraction 67 = .ok (.return_, 1) := by decide +kernel
theorem dX4_nextNumber_0 : decode cX4_nextNumber 0 = .ok (.lload_n 0, 1) := by decide +kernel
theorem dX4_nextNumber_1 : decode cX4_nextNumber 1 = .ok (.ldc2_w 250, 3) := by decide +kernel
theorem dX4_nextNumber_4 : decode cX4_nextNumber 4 = .ok (.lmul, 1) := by decide +kernel
theorem dX4_nextNumber_5 : decode cX4_nextNumber 5 = .ok (.ldc2_w 252, 3) := by decide +kernel
theorem dX4_nextNumber_8 : decode cX4_nextNumber 8 = .ok (.ladd, 1) := by decide +kernel
theorem dX4_nextNumber_9 : decode cX4_nextNumber 9 = .ok (.ldc2_w 254, 3) := by decide +kernel
theorem dX4_nextNumber_12 : decode cX4_nextNumber 12 = .ok (.lrem, 1) := by decide +kernel
theorem dX4_nextNumber_13 : decode cX4_nextNumber 13 = .ok (.lreturn, 1) := by decide +kernel
theorem dX4_drawn_0 : decode cX4_drawn 0 = .ok (.iload_n 2, 1) := by decide +kernel
theorem dX4_drawn_1 : decode cX4_drawn 1 = .ok (.ifCond .ge 7, 3) := by decide +kernel
theorem dX4_drawn_4 : decode cX4_drawn 4 = .ok (.iconst 0, 1) := by decide +kernel
theorem dX4_drawn_5 : decode cX4_drawn 5 = .ok (.goto 14, 3) := by decide +kernel
theorem dX4_drawn_8 : decode cX4_drawn 8 = .ok (.lload_n 0, 1) := by decide +kernel
theorem dX4_drawn_9 : decode cX4_drawn 9 = .ok (.ldc2_w 256, 3) := by decide +kernel
theorem dX4_drawn_12 : decode cX4_drawn 12 = .ok (.ldiv, 1) := by decide +kernel
theorem dX4_drawn_13 : decode cX4_drawn 13 = .ok (.iload_n 2, 1) := by decide +kernel
theorem dX4_drawn_14 : decode cX4_drawn 14 = .ok (.iconst 1, 1) := by decide +kernel
theorem dX4_drawn_15 : decode cX4_drawn 15 = .ok (.iadd, 1) := by decide +kernel
theorem dX4_drawn_16 : decode cX4_drawn 16 = .ok (.i2l, 1) := by decide +kernel
theorem dX4_drawn_17 : decode cX4_drawn 17 = .ok (.lrem, 1) := by decide +kernel
theorem dX4_drawn_18 : decode cX4_drawn 18 = .ok (.l2i, 1) := by decide +kernel
theorem dX4_drawn_19 : decode cX4_drawn 19 = .ok (.ireturn, 1) := by decide +kernel
theorem dX4_howMany_0 : decode cX4_howMany 0 = .ok (.iload_n 1, 1) := by decide +kernel
theorem dX4_howMany_1 : decode cX4_howMany 1 = .ok (.tableswitch 78 0 4 #[35, 46, 54, 62, 70], 35) := by decide +kernel
theorem dX4_howMany_36 : decode cX4_howMany 36 = .ok (.aload_n 0, 1) := by decide +kernel
theorem dX4_howMany_37 : decode cX4_howMany 37 = .ok (.getfield 10, 3) := by decide +kernel
theorem dX4_howMany_40 : decode cX4_howMany 40 = .ok (.invokevirtual 59, 3) := by decide +kernel
theorem dX4_howMany_43 : decode cX4_howMany 43 = .ok (.invokestatic 63, 3) := by decide +kernel
theorem dX4_howMany_46 : decode cX4_howMany 46 = .ok (.ireturn, 1) := by decide +kernel
theorem dX4_howMany_47 : decode cX4_howMany 47 = .ok (.aload_n 0, 1) := by decide +kernel
theorem dX4_howMany_48 : decode cX4_howMany 48 = .ok (.getfield 10, 3) := by decide +kernel
theorem dX4_howMany_51 : decode cX4_howMany 51 = .ok (.getfield 81, 3) := by decide +kernel
theorem dX4_howMany_54 : decode cX4_howMany 54 = .ok (.ireturn, 1) := by decide +kernel
theorem dX4_howMany_55 : decode cX4_howMany 55 = .ok (.aload_n 0, 1) := by decide +kernel
theorem dX4_howMany_56 : decode cX4_howMany 56 = .ok (.getfield 10, 3) := by decide +kernel
theorem dX4_howMany_59 : decode cX4_howMany 59 = .ok (.getfield 166, 3) := by decide +kernel
theorem dX4_howMany_62 : decode cX4_howMany 62 = .ok (.ireturn, 1) := by decide +kernel
theorem dX4_howMany_63 : decode cX4_howMany 63 = .ok (.aload_n 0, 1) := by decide +kernel
theorem dX4_howMany_64 : decode cX4_howMany 64 = .ok (.getfield 10, 3) := by decide +kernel
theorem dX4_howMany_67 : decode cX4_howMany 67 = .ok (.getfield 184, 3) := by decide +kernel
theorem dX4_howMany_70 : decode cX4_howMany 70 = .ok (.ireturn, 1) := by decide +kernel
theorem dX4_howMany_71 : decode cX4_howMany 71 = .ok (.aload_n 0, 1) := by decide +kernel
theorem dX4_howMany_72 : decode cX4_howMany 72 = .ok (.getfield 10, 3) := by decide +kernel
theorem dX4_howMany_75 : decode cX4_howMany 75 = .ok (.getfield 78, 3) := by decide +kernel
theorem dX4_howMany_78 : decode cX4_howMany 78 = .ok (.ireturn, 1) := by decide +kernel
theorem dX4_howMany_79 : decode cX4_howMany 79 = .ok (.aload_n 0, 1) := by decide +kernel
theorem dX4_howMany_80 : decode cX4_howMany 80 = .ok (.getfield 26, 3) := by decide +kernel
theorem dX4_howMany_83 : decode cX4_howMany 83 = .ok (.getfield 102, 3) := by decide +kernel
theorem dX4_howMany_86 : decode cX4_howMany 86 = .ok (.ireturn, 1) := by decide +kernel
theorem dX5_init_0 : decode cX5_init 0 = .ok (.aload_n 0, 1) := by decide +kernel
theorem dX5_init_1 : decode cX5_init 1 = .ok (.invokespecial 1, 3) := by decide +kernel
theorem dX5_init_4 : decode cX5_init 4 = .ok (.aload_n 0, 1) := by decide +kernel
theorem dX5_init_5 : decode cX5_init 5 = .ok (.bipush 99, 2) := by decide +kernel
theorem dX5_init_7 : decode cX5_init 7 = .ok (.newarray .int, 2) := by decide +kernel
theorem dX5_init_9 : decode cX5_init 9 = .ok (.putfield 7, 3) := by decide +kernel
theorem dX5_init_12 : decode cX5_init 12 = .ok (.aload_n 0, 1) := by decide +kernel
theorem dX5_init_13 : decode cX5_init 13 = .ok (.lconst 1, 1) := by decide +kernel
theorem dX5_init_14 : decode cX5_init 14 = .ok (.putfield 13, 3) := by decide +kernel
theorem dX5_init_17 : decode cX5_init 17 = .ok (.aload_n 0, 1) := by decide +kernel
theorem dX5_init_18 : decode cX5_init 18 = .ok (.iconst 3, 1) := by decide +kernel
theorem dX5_init_19 : decode cX5_init 19 = .ok (.newarray .int, 2) := by decide +kernel
theorem dX5_init_21 : decode cX5_init 21 = .ok (.putfield 17, 3) := by decide +kernel
theorem dX5_init_24 : decode cX5_init 24 = .ok (.aload_n 0, 1) := by decide +kernel
theorem dX5_init_25 : decode cX5_init 25 = .ok (.bipush 64, 2) := by decide +kernel
theorem dX5_init_27 : decode cX5_init 27 = .ok (.newarray .int, 2) := by decide +kernel
theorem dX5_init_29 : decode cX5_init 29 = .ok (.putfield 20, 3) := by decide +kernel
theorem dX5_init_32 : decode cX5_init 32 = .ok (.aload_n 0, 1) := by decide +kernel
theorem dX5_init_33 : decode cX5_init 33 = .ok (.sipush 520, 3) := by decide +kernel
theorem dX5_init_36 : decode cX5_init 36 = .ok (.newarray .int, 2) := by decide +kernel
theorem dX5_init_38 : decode cX5_init 38 = .ok (.putfield 23, 3) := by decide +kernel
theorem dX5_init_41 : decode cX5_init 41 = .ok (.aload_n 0, 1) := by decide +kernel
theorem dX5_init_42 : decode cX5_init 42 = .ok (.sipush 150, 3) := by decide +kernel
theorem dX5_init_45 : decode cX5_init 45 = .ok (.newarray .int, 2) := by decide +kernel
theorem dX5_init_47 : decode cX5_init 47 = .ok (.putfield 26, 3) := by decide +kernel
theorem dX5_init_50 : decode cX5_init 50 = .ok (.aload_n 0, 1) := by decide +kernel
theorem dX5_init_51 : decode cX5_init 51 = .ok (.iconst 5, 1) := by decide +kernel
theorem dX5_init_52 : decode cX5_init 52 = .ok (.newarray .int, 2) := by decide +kernel
theorem dX5_init_54 : decode cX5_init 54 = .ok (.putfield 29, 3) := by decide +kernel
theorem dX5_init_57 : decode cX5_init 57 = .ok (.aload_n 0, 1) := by decide +kernel
theorem dX5_init_58 : decode cX5_init 58 = .ok (.sipush 256, 3) := by decide +kernel
theorem dX5_init_61 : decode cX5_init 61 = .ok (.newarray .int, 2) := by decide +kernel
theorem dX5_init_63 : decode cX5_init 63 = .ok (.putfield 32, 3) := by decide +kernel
theorem dX5_init_66 : decode cX5_init 66 = .ok (.aload_n 0, 1) := by decide +kernel
theorem dX5_init_67 : decode cX5_init 67 = .ok (.bipush 64, 2) := by decide +kernel
theorem dX5_init_69 : decode cX5_init 69 = .ok (.newarray .int, 2) := by decide +kernel
theorem dX5_init_71 : decode cX5_init 71 = .ok (.putfield 35, 3) := by decide +kernel
theorem dX5_init_74 : decode cX5_init 74 = .ok (.aload_n 0, 1) := by decide +kernel
theorem dX5_init_75 : decode cX5_init 75 = .ok (.bipush 99, 2) := by decide +kernel
theorem dX5_init_77 : decode cX5_init 77 = .ok (.newarray .int, 2) := by decide +kernel
theorem dX5_init_79 : decode cX5_init 79 = .ok (.putfield 38, 3) := by decide +kernel
theorem dX5_init_82 : decode cX5_init 82 = .ok (.aload_n 0, 1) := by decide +kernel
theorem dX5_init_83 : decode cX5_init 83 = .ok (.iconst 2, 1) := by decide +kernel
theorem dX5_init_84 : decode cX5_init 84 = .ok (.newarray .boolean, 2) := by decide +kernel
theorem dX5_init_86 : decode cX5_init 86 = .ok (.putfield 41, 3) := by decide +kernel
theorem dX5_init_89 : decode cX5_init 89 = .ok (.aload_n 0, 1) := by decide +kernel
theorem dX5_init_90 : decode cX5_init 90 = .ok (.sipush 198, 3) := by decide +kernel
theorem dX5_init_93 : decode cX5_init 93 = .ok (.newarray .int, 2) := by decide +kernel
theorem dX5_init_95 : decode cX5_init 95 = .ok (.putfield 45, 3) := by decide +kernel
theorem dX5_init_98 : decode cX5_init 98 = .ok (.aload_n 0, 1) := by decide +kernel
theorem dX5_init_99 : decode cX5_init 99 = .ok (.sipush 1040, 3) := by decide +kernel
theorem dX5_init_102 : decode cX5_init 102 = .ok (.newarray .int, 2) := by decide +kernel
theorem dX5_init_104 : decode cX5_init 104 = .ok (.putfield 48, 3) := by decide +kernel
theorem dX5_init_107 : decode cX5_init 107 = .ok (.aload_n 0, 1) := by decide +kernel
theorem dX5_init_108 : decode cX5_init 108 = .ok (.iconst 2, 1) := by decide +kernel
theorem dX5_init_109 : decode cX5_init 109 = .ok (.newarray .int, 2) := by decide +kernel
theorem dX5_init_111 : decode cX5_init 111 = .ok (.putfield 51, 3) := by decide +kernel
theorem dX5_init_114 : decode cX5_init 114 = .ok (.return_, 1) := by decide +kernel
theorem dX5_in_0 : decode cX5_in 0 = .ok (.lload_n 0, 1) := by decide +kernel
theorem dX5_in_1 : decode cX5_in 1 = .ok (.lload_n 2, 1) := by decide +kernel
theorem dX5_in_2 : decode cX5_in 2 = .ok (.lcmp, 1) := by decide +kernel
theorem dX5_in_3 : decode cX5_in 3 = .ok (.ifCond .lt 14, 3) := by decide +kernel
theorem dX5_in_6 : decode cX5_in 6 = .ok (.lload_n 0, 1) := by decide +kernel
theorem dX5_in_7 : decode cX5_in 7 = .ok (.lload 4, 2) := by decide +kernel
theorem dX5_in_9 : decode cX5_in 9 = .ok (.lcmp, 1) := by decide +kernel
theorem dX5_in_10 : decode cX5_in 10 = .ok (.ifCond .gt 7, 3) := by decide +kernel
theorem dX5_in_13 : decode cX5_in 13 = .ok (.iconst 1, 1) := by decide +kernel
theorem dX5_in_14 : decode cX5_in 14 = .ok (.goto 4, 3) := by decide +kernel
theorem dX5_in_17 : decode cX5_in 17 = .ok (.iconst 0, 1) := by decide +kernel
theorem dX5_in_18 : decode cX5_in 18 = .ok (.ireturn, 1) := by decide +kernel
theorem dX5_has_0 : decode cX5_has 0 = .ok (.iload_n 0, 1) := by decide +kernel
theorem dX5_has_1 : decode cX5_has 1 = .ok (.iload_n 1, 1) := by decide +kernel
theorem dX5_has_2 : decode cX5_has 2 = .ok (.ishr, 1) := by decide +kernel
theorem dX5_has_3 : decode cX5_has 3 = .ok (.iconst 1, 1) := by decide +kernel
theorem dX5_has_4 : decode cX5_has 4 = .ok (.iand, 1) := by decide +kernel
theorem dX5_has_5 : decode cX5_has 5 = .ok (.iconst 1, 1) := by decide +kernel
theorem dX5_has_6 : decode cX5_has 6 = .ok (.if_icmp .ne 7, 3) := by decide +kernel
theorem dX5_has_9 : decode cX5_has 9 = .ok (.iconst 1, 1) := by decide +kernel
theorem dX5_has_10 : decode cX5_has 10 = .ok (.goto 4, 3) := by decide +kernel
theorem dX5_has_13 : decode cX5_has 13 = .ok (.iconst 0, 1) := by decide +kernel
theorem dX5_has_14 : decode cX5_has 14 = .ok (.ireturn, 1) := by decide +kernel
theorem dX5_bad_0 : decode cX5_bad 0 = .ok (.aload_n 0, 1) := by decide +kernel
theorem dX5_bad_1 : decode cX5_bad 1 = .ok (.getfield 17, 3) := by decide +kernel
theorem dX5_bad_4 : decode cX5_bad 4 = .ok (.iconst 0, 1) := by decide +kernel
theorem dX5_bad_5 : decode cX5_bad 5 = .ok (.dup2, 1) := by decide +kernel
theorem dX5_bad_6 : decode cX5_bad 6 = .ok (.iaload, 1) := by decide +kernel
theorem dX5_bad_7 : decode cX5_bad 7 = .ok (.iconst 1, 1) := by decide +kernel
theorem dX5_bad_8 : decode cX5_bad 8 = .ok (.iadd, 1) := by decide +kernel
theorem dX5_bad_9 : decode cX5_bad 9 = .ok (.iastore, 1) := by decide +kernel
theorem dX5_bad_10 : decode cX5_bad 10 = .ok (.bipush (-2), 2) := by decide +kernel
theorem dX5_bad_12 : decode cX5_bad 12 = .ok (.ireturn, 1) := by decide +kernel
theorem dX5_no_0 : decode cX5_no 0 = .ok (.aload_n 0, 1) := by decide +kernel
theorem dX5_no_1 : decode cX5_no 1 = .ok (.getfield 17, 3) := by decide +kernel
theorem dX5_no_4 : decode cX5_no 4 = .ok (.iconst 1, 1) := by decide +kernel
theorem dX5_no_5 : decode cX5_no 5 = .ok (.dup2, 1) := by decide +kernel
theorem dX5_no_6 : decode cX5_no 6 = .ok (.iaload, 1) := by decide +kernel
theorem dX5_no_7 : decode cX5_no 7 = .ok (.iconst 1, 1) := by decide +kernel
theorem dX5_no_8 : decode cX5_no 8 = .ok (.iadd, 1) := by decide +kernel
theorem dX5_no_9 : decode cX5_no 9 = .ok (.iastore, 1) := by decide +kernel
theorem dX5_no_10 : decode cX5_no 10 = .ok (.bipush (-3), 2) := by decide +kernel
theorem dX5_no_12 : decode cX5_no 12 = .ok (.ireturn, 1) := by decide +kernel
theorem dX5_full_0 : decode cX5_full 0 = .ok (.aload_n 0, 1) := by decide +kernel
theorem dX5_full_1 : decode cX5_full 1 = .ok (.getfield 17, 3) := by decide +kernel
theorem dX5_full_4 : decode cX5_full 4 = .ok (.iconst 2, 1) := by decide +kernel
theorem dX5_full_5 : decode cX5_full 5 = .ok (.dup2, 1) := by decide +kernel
theorem dX5_full_6 : decode cX5_full 6 = .ok (.iaload, 1) := by decide +kernel
theorem dX5_full_7 : decode cX5_full 7 = .ok (.iconst 1, 1) := by decide +kernel
theorem dX5_full_8 : decode cX5_full 8 = .ok (.iadd, 1) := by decide +kernel
theorem dX5_full_9 : decode cX5_full 9 = .ok (.iastore, 1) := by decide +kernel
theorem dX5_full_10 : decode cX5_full 10 = .ok (.bipush (-4), 2) := by decide +kernel
theorem dX5_full_12 : decode cX5_full 12 = .ok (.ireturn, 1) := by decide +kernel
theorem dX5_isWhat_0 : decode cX5_isWhat 0 = .ok (.iload_n 0, 1) := by decide +kernel
theorem dX5_isWhat_1 : decode cX5_isWhat 1 = .ok (.i2l, 1) := by decide +kernel
theorem dX5_isWhat_2 : decode cX5_isWhat 2 = .ok (.lconst 0, 1) := by decide +kernel
theorem dX5_isWhat_3 : decode cX5_isWhat 3 = .ok (.lconst 1, 1) := by decide +kernel
theorem dX5_isWhat_4 : decode cX5_isWhat 4 = .ok (.invokestatic 54, 3) := by decide +kernel
theorem dX5_isWhat_7 : decode cX5_isWhat 7 = .ok (.ireturn, 1) := by decide +kernel
theorem dX5_isPlace_0 : decode cX5_isPlace 0 = .ok (.iload_n 0, 1) := by decide +kernel
theorem dX5_isPlace_1 : decode cX5_isPlace 1 = .ok (.i2l, 1) := by decide +kernel
theorem dX5_isPlace_2 : decode cX5_isPlace 2 = .ok (.lconst 0, 1) := by decide +kernel
theorem dX5_isPlace_3 : decode cX5_isPlace 3 = .ok (.ldc2_w 58, 3) := by decide +kernel
theorem dX5_isPlace_6 : decode cX5_isPlace 6 = .ok (.invokestatic 54, 3) := by decide +kernel
theorem dX5_isPlace_9 : decode cX5_isPlace 9 = .ok (.ifCond .eq 19, 3) := by decide +kernel
theorem dX5_isPlace_12 : decode cX5_isPlace 12 = .ok (.iload_n 1, 1) := by decide +kernel
theorem dX5_isPlace_13 : decode cX5_isPlace 13 = .ok (.i2l, 1) := by decide +kernel
theorem dX5_isPlace_14 : decode cX5_isPlace 14 = .ok (.lconst 0, 1) := by decide +kernel
theorem dX5_isPlace_15 : decode cX5_isPlace 15 = .ok (.ldc2_w 58, 3) := by decide +kernel
theorem dX5_isPlace_18 : decode cX5_isPlace 18 = .ok (.invokestatic 54, 3) := by decide +kernel
theorem dX5_isPlace_21 : decode cX5_isPlace 21 = .ok (.ifCond .eq 7, 3) := by decide +kernel
theorem dX5_isPlace_24 : decode cX5_isPlace 24 = .ok (.iconst 1, 1) := by decide +kernel
theorem dX5_isPlace_25 : decode cX5_isPlace 25 = .ok (.goto 4, 3) := by decide +kernel
theorem dX5_isPlace_28 : decode cX5_isPlace 28 = .ok (.iconst 0, 1) := by decide +kernel
theorem dX5_isPlace_29 : decode cX5_isPlace 29 = .ok (.ireturn, 1) := by decide +kernel
theorem dX5_isPrint_0 : decode cX5_isPrint 0 = .ok (.iload_n 0, 1) := by decide +kernel
theorem dX5_isPrint_1 : decode cX5_isPrint 1 = .ok (.i2l, 1) := by decide +kernel
theorem dX5_isPrint_2 : decode cX5_isPrint 2 = .ok (.lconst 0, 1) := by decide +kernel
theorem dX5_isPrint_3 : decode cX5_isPrint 3 = .ok (.ldc2_w 60, 3) := by decide +kernel
theorem dX5_isPrint_6 : decode cX5_isPrint 6 = .ok (.invokestatic 54, 3) := by decide +kernel
theorem dX5_isPrint_9 : decode cX5_isPrint 9 = .ok (.ifCond .eq 35, 3) := by decide +kernel
theorem dX5_isPrint_12 : decode cX5_isPrint 12 = .ok (.iload_n 1, 1) := by decide +kernel
theorem dX5_isPrint_13 : decode cX5_isPrint 13 = .ok (.invokestatic 62, 3) := by decide +kernel
theorem dX5_isPrint_16 : decode cX5_isPrint 16 = .ok (.ifCond .eq 28, 3) := by decide +kernel
theorem dX5_isPrint_19 : decode cX5_isPrint 19 = .ok (.iload_n 2, 1) := by decide +kernel
theorem dX5_isPrint_20 : decode cX5_isPrint 20 = .ok (.iload_n 3, 1) := by decide +kernel
theorem dX5_isPrint_21 : decode cX5_isPrint 21 = .ok (.invokestatic 66, 3) := by decide +kernel
theorem dX5_isPrint_24 : decode cX5_isPrint 24 = .ok (.ifCond .eq 20, 3) := by decide +kernel
theorem dX5_isPrint_27 : decode cX5_isPrint 27 = .ok (.iload 4, 2) := by decide +kernel
theorem dX5_isPrint_29 : decode cX5_isPrint 29 = .ok (.i2l, 1) := by decide +kernel
theorem dX5_isPrint_30 : decode cX5_isPrint 30 = .ok (.lconst 0, 1) := by decide +kernel
theorem dX5_isPrint_31 : decode cX5_isPrint 31 = .ok (.ldc2_w 70, 3) := by decide +kernel
theorem dX5_isPrint_34 : decode cX5_isPrint 34 = .ok (.invokestatic 54, 3) := by decide +kernel
theorem dX5_isPrint_37 : decode cX5_isPrint 37 = .ok (.ifCond .eq 7, 3) := by decide +kernel
theorem dX5_isPrint_40 : decode cX5_isPrint 40 = .ok (.iconst 1, 1) := by decide +kernel
theorem dX5_isPrint_41 : decode cX5_isPrint 41 = .ok (.goto 4, 3) := by decide +kernel
theorem dX5_isPrint_44 : decode cX5_isPrint 44 = .ok (.iconst 0, 1) := by decide +kernel
theorem dX5_isPrint_45 : decode cX5_isPrint 45 = .ok (.ireturn, 1) := by decide +kernel
theorem dX5_lands_0 : decode cX5_lands 0 = .ok (.iconst 3, 1) := by decide +kernel
theorem dX5_lands_1 : decode cX5_lands 1 = .ok (.iload_n 0, 1) := by decide +kernel
theorem dX5_lands_2 : decode cX5_lands 2 = .ok (.iconst 4, 1) := by decide +kernel
theorem dX5_lands_3 : decode cX5_lands 3 = .ok (.irem, 1) := by decide +kernel
theorem dX5_lands_4 : decode cX5_lands 4 = .ok (.isub, 1) := by decide +kernel
theorem dX5_lands_5 : decode cX5_lands 5 = .ok (.istore_n 2, 1) := by decide +kernel
theorem dX5_lands_6 : decode cX5_lands 6 = .ok (.iload_n 0, 1) := by decide +kernel
theorem dX5_lands_7 : decode cX5_lands 7 = .ok (.iconst 4, 1) := by decide +kernel
theorem dX5_lands_8 : decode cX5_lands 8 = .ok (.idiv, 1) := by decide +kernel
theorem dX5_lands_9 : decode cX5_lands 9 = .ok (.istore_n 3, 1) := by decide +kernel
theorem dX5_lands_10 : decode cX5_lands 10 = .ok (.iconst 0, 1) := by decide +kernel
theorem dX5_lands_11 : decode cX5_lands 11 = .ok (.istore 4, 2) := by decide +kernel
theorem dX5_lands_13 : decode cX5_lands 13 = .ok (.iload 4, 2) := by decide +kernel
theorem dX5_lands_15 : decode cX5_lands 15 = .ok (.iload_n 1, 1) := by decide +kernel
