theorem dX5_findWanted_45 : decode cX5_findWanted 45 = .ok (.iload_n 2, 1) := by decide +kernel
theorem dX5_findWanted_46 : decode cX5_findWanted 46 = .ok (.dup2, 1) := by decide +kernel
theorem dX5_findWanted_47 : decode cX5_findWanted 47 = .ok (.iaload, 1) := by decide +kernel
theorem dX5_findWanted_48 : decode cX5_findWanted 48 = .ok (.iload_n 3, 1) := by decide +kernel
theorem dX5_findWanted_49 : decode cX5_findWanted 49 = .ok (.iload_n 2, 1) := by decide +kernel
theorem dX5_findWanted_50 : decode cX5_findWanted 50 = .ok (.bipush 8, 2) := by decide +kernel
theorem dX5_findWanted_52 : decode cX5_findWanted 52 = .ok (.irem, 1) := by decide +kernel
theorem dX5_findWanted_53 : decode cX5_findWanted 53 = .ok (.iload_n 2, 1) := by decide +kernel
theorem dX5_findWanted_54 : decode cX5_findWanted 54 = .ok (.bipush 8, 2) := by decide +kernel
theorem dX5_findWanted_56 : decode cX5_findWanted 56 = .ok (.idiv, 1) := by decide +kernel
theorem dX5_findWanted_57 : decode cX5_findWanted 57 = .ok (.bipush 8, 2) := by decide +kernel
theorem dX5_findWanted_59 : decode cX5_findWanted 59 = .ok (.irem, 1) := by decide +kernel
theorem dX5_findWanted_60 : decode cX5_findWanted 60 = .ok (.aload_n 0, 1) := by decide +kernel
theorem dX5_findWanted_61 : decode cX5_findWanted 61 = .ok (.getfield 7, 3) := by decide +kernel
theorem dX5_findWanted_64 : decode cX5_findWanted 64 = .ok (.bipush 68, 2) := by decide +kernel
theorem dX5_findWanted_66 : decode cX5_findWanted 66 = .ok (.iload 4, 2) := by decide +kernel
theorem dX5_findWanted_68 : decode cX5_findWanted 68 = .ok (.iadd, 1) := by decide +kernel
theorem dX5_findWanted_69 : decode cX5_findWanted 69 = .ok (.iaload, 1) := by decide +kernel
theorem dX5_findWanted_70 : decode cX5_findWanted 70 = .ok (.invokestatic 200, 3) := by decide +kernel
theorem dX5_findWanted_73 : decode cX5_findWanted 73 = .ok (.ifCond .eq 10, 3) := by decide +kernel
theorem dX5_findWanted_76 : decode cX5_findWanted 76 = .ok (.iconst 1, 1) := by decide +kernel
theorem dX5_findWanted_77 : decode cX5_findWanted 77 = .ok (.iload 4, 2) := by decide +kernel
theorem dX5_findWanted_79 : decode cX5_findWanted 79 = .ok (.ishl, 1) := by decide +kernel
theorem dX5_findWanted_80 : decode cX5_findWanted 80 = .ok (.goto 4, 3) := by decide +kernel
theorem dX5_findWanted_83 : decode cX5_findWanted 83 = .ok (.iconst 0, 1) := by decide +kernel
theorem dX5_findWanted_84 : decode cX5_findWanted 84 = .ok (.ior, 1) := by decide +kernel
theorem dX5_findWanted_85 : decode cX5_findWanted 85 = .ok (.iastore, 1) := by decide +kernel
theorem dX5_findWanted_86 : decode cX5_findWanted 86 = .ok (.iinc 4 1, 3) := by decide +kernel
theorem dX5_findWanted_89 : decode cX5_findWanted 89 = .ok (.goto (-60), 3) := by decide +kernel
theorem dX5_findWanted_92 : decode cX5_findWanted 92 = .ok (.iinc 2 1, 3) := by decide +kernel
theorem dX5_findWanted_95 : decode cX5_findWanted 95 = .ok (.goto (-93), 3) := by decide +kernel
theorem dX5_findWanted_98 : decode cX5_findWanted 98 = .ok (.return_, 1) := by decide +kernel
theorem dX5_numberBy_0 : decode cX5_numberBy 0 = .ok (.iload_n 0, 1) := by decide +kernel
theorem dX5_numberBy_1 : decode cX5_numberBy 1 = .ok (.bipush 64, 2) := by decide +kernel
theorem dX5_numberBy_3 : decode cX5_numberBy 3 = .ok (.idiv, 1) := by decide +kernel
theorem dX5_numberBy_4 : decode cX5_numberBy 4 = .ok (.iload_n 0, 1) := by decide +kernel
theorem dX5_numberBy_5 : decode cX5_numberBy 5 = .ok (.bipush 8, 2) := by decide +kernel
theorem dX5_numberBy_7 : decode cX5_numberBy 7 = .ok (.idiv, 1) := by decide +kernel
theorem dX5_numberBy_8 : decode cX5_numberBy 8 = .ok (.bipush 8, 2) := by decide +kernel
theorem dX5_numberBy_10 : decode cX5_numberBy 10 = .ok (.irem, 1) := by decide +kernel
theorem dX5_numberBy_11 : decode cX5_numberBy 11 = .ok (.iload_n 0, 1) := by decide +kernel
theorem dX5_numberBy_12 : decode cX5_numberBy 12 = .ok (.bipush 8, 2) := by decide +kernel
theorem dX5_numberBy_14 : decode cX5_numberBy 14 = .ok (.irem, 1) := by decide +kernel
theorem dX5_numberBy_15 : decode cX5_numberBy 15 = .ok (.invokestatic 204, 3) := by decide +kernel
theorem dX5_numberBy_18 : decode cX5_numberBy 18 = .ok (.ireturn, 1) := by decide +kernel
theorem dX5_cover_0 : decode cX5_cover 0 = .ok (.iload_n 1, 1) := by decide +kernel
theorem dX5_cover_1 : decode cX5_cover 1 = .ok (.invokestatic 62, 3) := by decide +kernel
theorem dX5_cover_4 : decode cX5_cover 4 = .ok (.ifCond .eq 10, 3) := by decide +kernel
theorem dX5_cover_7 : decode cX5_cover 7 = .ok (.iload_n 2, 1) := by decide +kernel
theorem dX5_cover_8 : decode cX5_cover 8 = .ok (.invokestatic 62, 3) := by decide +kernel
theorem dX5_cover_11 : decode cX5_cover 11 = .ok (.ifCond .ne 11, 3) := by decide +kernel
theorem dX5_cover_14 : decode cX5_cover 14 = .ok (.aload_n 0, 1) := by decide +kernel
theorem dX5_cover_15 : decode cX5_cover 15 = .ok (.invokevirtual 110, 3) := by decide +kernel
theorem dX5_cover_18 : decode cX5_cover 18 = .ok (.pop, 1) := by decide +kernel
theorem dX5_cover_19 : decode cX5_cover 19 = .ok (.bipush (-10), 2) := by decide +kernel
theorem dX5_cover_21 : decode cX5_cover 21 = .ok (.ireturn, 1) := by decide +kernel
theorem dX5_cover_22 : decode cX5_cover 22 = .ok (.iconst 1, 1) := by decide +kernel
theorem dX5_cover_23 : decode cX5_cover 23 = .ok (.aload_n 0, 1) := by decide +kernel
theorem dX5_cover_24 : decode cX5_cover 24 = .ok (.getfield 7, 3) := by decide +kernel
theorem dX5_cover_27 : decode cX5_cover 27 = .ok (.bipush 67, 2) := by decide +kernel
theorem dX5_cover_29 : decode cX5_cover 29 = .ok (.iaload, 1) := by decide +kernel
theorem dX5_cover_30 : decode cX5_cover 30 = .ok (.ishl, 1) := by decide +kernel
theorem dX5_cover_31 : decode cX5_cover 31 = .ok (.iconst 1, 1) := by decide +kernel
theorem dX5_cover_32 : decode cX5_cover 32 = .ok (.isub, 1) := by decide +kernel
theorem dX5_cover_33 : decode cX5_cover 33 = .ok (.istore_n 3, 1) := by decide +kernel
theorem dX5_cover_34 : decode cX5_cover 34 = .ok (.iload_n 3, 1) := by decide +kernel
theorem dX5_cover_35 : decode cX5_cover 35 = .ok (.ifCond .ne 13, 3) := by decide +kernel
theorem dX5_cover_38 : decode cX5_cover 38 = .ok (.iload_n 2, 1) := by decide +kernel
theorem dX5_cover_39 : decode cX5_cover 39 = .ok (.ifCond .ne 7, 3) := by decide +kernel
theorem dX5_cover_42 : decode cX5_cover 42 = .ok (.iconst 0, 1) := by decide +kernel
theorem dX5_cover_43 : decode cX5_cover 43 = .ok (.goto 4, 3) := by decide +kernel
theorem dX5_cover_46 : decode cX5_cover 46 = .ok (.iconst (-1), 1) := by decide +kernel
theorem dX5_cover_47 : decode cX5_cover 47 = .ok (.ireturn, 1) := by decide +kernel
theorem dX5_cover_48 : decode cX5_cover 48 = .ok (.aload_n 0, 1) := by decide +kernel
theorem dX5_cover_49 : decode cX5_cover 49 = .ok (.iload_n 1, 1) := by decide +kernel
theorem dX5_cover_50 : decode cX5_cover 50 = .ok (.invokevirtual 207, 3) := by decide +kernel
theorem dX5_cover_53 : decode cX5_cover 53 = .ok (.iconst 0, 1) := by decide +kernel
theorem dX5_cover_54 : decode cX5_cover 54 = .ok (.istore 4, 2) := by decide +kernel
theorem dX5_cover_56 : decode cX5_cover 56 = .ok (.iload 4, 2) := by decide +kernel
theorem dX5_cover_58 : decode cX5_cover 58 = .ok (.sipush 256, 3) := by decide +kernel
theorem dX5_cover_61 : decode cX5_cover 61 = .ok (.if_icmp .ge 34, 3) := by decide +kernel
theorem dX5_cover_64 : decode cX5_cover 64 = .ok (.aload_n 0, 1) := by decide +kernel
theorem dX5_cover_65 : decode cX5_cover 65 = .ok (.getfield 32, 3) := by decide +kernel
theorem dX5_cover_68 : decode cX5_cover 68 = .ok (.iload 4, 2) := by decide +kernel
theorem dX5_cover_70 : decode cX5_cover 70 = .ok (.iaload, 1) := by decide +kernel
theorem dX5_cover_71 : decode cX5_cover 71 = .ok (.iload_n 3, 1) := by decide +kernel
theorem dX5_cover_72 : decode cX5_cover 72 = .ok (.if_icmp .ne 17, 3) := by decide +kernel
theorem dX5_cover_75 : decode cX5_cover 75 = .ok (.iload_n 2, 1) := by decide +kernel
theorem dX5_cover_76 : decode cX5_cover 76 = .ok (.ifCond .ne 7, 3) := by decide +kernel
theorem dX5_cover_79 : decode cX5_cover 79 = .ok (.iconst 1, 1) := by decide +kernel
theorem dX5_cover_80 : decode cX5_cover 80 = .ok (.goto 8, 3) := by decide +kernel
theorem dX5_cover_83 : decode cX5_cover 83 = .ok (.iload 4, 2) := by decide +kernel
theorem dX5_cover_85 : decode cX5_cover 85 = .ok (.invokestatic 210, 3) := by decide +kernel
theorem dX5_cover_88 : decode cX5_cover 88 = .ok (.ireturn, 1) := by decide +kernel
theorem dX5_cover_89 : decode cX5_cover 89 = .ok (.iinc 4 1, 3) := by decide +kernel
theorem dX5_cover_92 : decode cX5_cover 92 = .ok (.goto (-36), 3) := by decide +kernel
theorem dX5_cover_95 : decode cX5_cover 95 = .ok (.iconst 0, 1) := by decide +kernel
theorem dX5_cover_96 : decode cX5_cover 96 = .ok (.istore 4, 2) := by decide +kernel
theorem dX5_cover_98 : decode cX5_cover 98 = .ok (.iload 4, 2) := by decide +kernel
theorem dX5_cover_100 : decode cX5_cover 100 = .ok (.sipush 256, 3) := by decide +kernel
theorem dX5_cover_103 : decode cX5_cover 103 = .ok (.if_icmp .ge 59, 3) := by decide +kernel
theorem dX5_cover_106 : decode cX5_cover 106 = .ok (.iconst 0, 1) := by decide +kernel
theorem dX5_cover_107 : decode cX5_cover 107 = .ok (.istore 5, 2) := by decide +kernel
theorem dX5_cover_109 : decode cX5_cover 109 = .ok (.iload 5, 2) := by decide +kernel
theorem dX5_cover_111 : decode cX5_cover 111 = .ok (.sipush 256, 3) := by decide +kernel
theorem dX5_cover_114 : decode cX5_cover 114 = .ok (.if_icmp .ge 42, 3) := by decide +kernel
theorem dX5_cover_117 : decode cX5_cover 117 = .ok (.aload_n 0, 1) := by decide +kernel
theorem dX5_cover_118 : decode cX5_cover 118 = .ok (.getfield 32, 3) := by decide +kernel
theorem dX5_cover_121 : decode cX5_cover 121 = .ok (.iload 4, 2) := by decide +kernel
theorem dX5_cover_123 : decode cX5_cover 123 = .ok (.iaload, 1) := by decide +kernel
theorem dX5_cover_124 : decode cX5_cover 124 = .ok (.aload_n 0, 1) := by decide +kernel
theorem dX5_cover_125 : decode cX5_cover 125 = .ok (.getfield 32, 3) := by decide +kernel
theorem dX5_cover_128 : decode cX5_cover 128 = .ok (.iload 5, 2) := by decide +kernel
theorem dX5_cover_130 : decode cX5_cover 130 = .ok (.iaload, 1) := by decide +kernel
theorem dX5_cover_131 : decode cX5_cover 131 = .ok (.ior, 1) := by decide +kernel
theorem dX5_cover_132 : decode cX5_cover 132 = .ok (.iload_n 3, 1) := by decide +kernel
theorem dX5_cover_133 : decode cX5_cover 133 = .ok (.if_icmp .ne 17, 3) := by decide +kernel
theorem dX5_cover_136 : decode cX5_cover 136 = .ok (.iload_n 2, 1) := by decide +kernel
theorem dX5_cover_137 : decode cX5_cover 137 = .ok (.ifCond .ne 7, 3) := by decide +kernel
theorem dX5_cover_140 : decode cX5_cover 140 = .ok (.iconst 2, 1) := by decide +kernel
theorem dX5_cover_141 : decode cX5_cover 141 = .ok (.goto 8, 3) := by decide +kernel
theorem dX5_cover_144 : decode cX5_cover 144 = .ok (.iload 4, 2) := by decide +kernel
theorem dX5_cover_146 : decode cX5_cover 146 = .ok (.invokestatic 210, 3) := by decide +kernel
theorem dX5_cover_149 : decode cX5_cover 149 = .ok (.ireturn, 1) := by decide +kernel
theorem dX5_cover_150 : decode cX5_cover 150 = .ok (.iinc 5 1, 3) := by decide +kernel
theorem dX5_cover_153 : decode cX5_cover 153 = .ok (.goto (-44), 3) := by decide +kernel
theorem dX5_cover_156 : decode cX5_cover 156 = .ok (.iinc 4 1, 3) := by decide +kernel
theorem dX5_cover_159 : decode cX5_cover 159 = .ok (.goto (-61), 3) := by decide +kernel
theorem dX5_cover_162 : decode cX5_cover 162 = .ok (.iconst (-1), 1) := by decide +kernel
theorem dX5_cover_163 : decode cX5_cover 163 = .ok (.ireturn, 1) := by decide +kernel
theorem dX5_shrunk_0 : decode cX5_shrunk 0 = .ok (.iconst 0, 1) := by decide +kernel
theorem dX5_shrunk_1 : decode cX5_shrunk 1 = .ok (.istore_n 1, 1) := by decide +kernel
theorem dX5_shrunk_2 : decode cX5_shrunk 2 = .ok (.iconst 0, 1) := by decide +kernel
theorem dX5_shrunk_3 : decode cX5_shrunk 3 = .ok (.istore_n 2, 1) := by decide +kernel
theorem dX5_shrunk_4 : decode cX5_shrunk 4 = .ok (.iload_n 2, 1) := by decide +kernel
theorem dX5_shrunk_5 : decode cX5_shrunk 5 = .ok (.bipush 16, 2) := by decide +kernel
theorem dX5_shrunk_7 : decode cX5_shrunk 7 = .ok (.if_icmp .ge 120, 3) := by decide +kernel
theorem dX5_shrunk_10 : decode cX5_shrunk 10 = .ok (.iload_n 2, 1) := by decide +kernel
theorem dX5_shrunk_11 : decode cX5_shrunk 11 = .ok (.iconst 4, 1) := by decide +kernel
theorem dX5_shrunk_12 : decode cX5_shrunk 12 = .ok (.irem, 1) := by decide +kernel
theorem dX5_shrunk_13 : decode cX5_shrunk 13 = .ok (.istore_n 3, 1) := by decide +kernel
theorem dX5_shrunk_14 : decode cX5_shrunk 14 = .ok (.iload_n 2, 1) := by decide +kernel
theorem dX5_shrunk_15 : decode cX5_shrunk 15 = .ok (.iconst 4, 1) := by decide +kernel
theorem dX5_shrunk_16 : decode cX5_shrunk 16 = .ok (.idiv, 1) := by decide +kernel
theorem dX5_shrunk_17 : decode cX5_shrunk 17 = .ok (.istore 4, 2) := by decide +kernel
theorem dX5_shrunk_19 : decode cX5_shrunk 19 = .ok (.iload_n 3, 1) := by decide +kernel
theorem dX5_shrunk_20 : decode cX5_shrunk 20 = .ok (.ifCond .le 23, 3) := by decide +kernel
theorem dX5_shrunk_23 : decode cX5_shrunk 23 = .ok (.iload_n 3, 1) := by decide +kernel
theorem dX5_shrunk_24 : decode cX5_shrunk 24 = .ok (.iconst 3, 1) := by decide +kernel
theorem dX5_shrunk_25 : decode cX5_shrunk 25 = .ok (.if_icmp .ge 18, 3) := by decide +kernel
theorem dX5_shrunk_28 : decode cX5_shrunk 28 = .ok (.iload 4, 2) := by decide +kernel
theorem dX5_shrunk_30 : decode cX5_shrunk 30 = .ok (.ifCond .le 13, 3) := by decide +kernel
theorem dX5_shrunk_33 : decode cX5_shrunk 33 = .ok (.iload 4, 2) := by decide +kernel
theorem dX5_shrunk_35 : decode cX5_shrunk 35 = .ok (.iconst 3, 1) := by decide +kernel
theorem dX5_shrunk_36 : decode cX5_shrunk 36 = .ok (.if_icmp .ge 7, 3) := by decide +kernel
theorem dX5_shrunk_39 : decode cX5_shrunk 39 = .ok (.iconst 1, 1) := by decide +kernel
theorem dX5_shrunk_40 : decode cX5_shrunk 40 = .ok (.goto 4, 3) := by decide +kernel
theorem dX5_shrunk_43 : decode cX5_shrunk 43 = .ok (.iconst 0, 1) := by decide +kernel
theorem dX5_shrunk_44 : decode cX5_shrunk 44 = .ok (.istore 5, 2) := by decide +kernel
theorem dX5_shrunk_46 : decode cX5_shrunk 46 = .ok (.iload 5, 2) := by decide +kernel
theorem dX5_shrunk_48 : decode cX5_shrunk 48 = .ok (.ifCond .eq 55, 3) := by decide +kernel
theorem dX5_shrunk_51 : decode cX5_shrunk 51 = .ok (.iload_n 0, 1) := by decide +kernel
theorem dX5_shrunk_52 : decode cX5_shrunk 52 = .ok (.iload_n 2, 1) := by decide +kernel
theorem dX5_shrunk_53 : decode cX5_shrunk 53 = .ok (.invokestatic 72, 3) := by decide +kernel
theorem dX5_shrunk_56 : decode cX5_shrunk 56 = .ok (.ifCond .eq 47, 3) := by decide +kernel
theorem dX5_shrunk_59 : decode cX5_shrunk 59 = .ok (.iload_n 0, 1) := by decide +kernel
theorem dX5_shrunk_60 : decode cX5_shrunk 60 = .ok (.iload_n 2, 1) := by decide +kernel
theorem dX5_shrunk_61 : decode cX5_shrunk 61 = .ok (.iconst 1, 1) := by decide +kernel
theorem dX5_shrunk_62 : decode cX5_shrunk 62 = .ok (.isub, 1) := by decide +kernel
theorem dX5_shrunk_63 : decode cX5_shrunk 63 = .ok (.invokestatic 72, 3) := by decide +kernel
theorem dX5_shrunk_66 : decode cX5_shrunk 66 = .ok (.ifCond .eq 37, 3) := by decide +kernel
theorem dX5_shrunk_69 : decode cX5_shrunk 69 = .ok (.iload_n 0, 1) := by decide +kernel
theorem dX5_shrunk_70 : decode cX5_shrunk 70 = .ok (.iload_n 2, 1) := by decide +kernel
theorem dX5_shrunk_71 : decode cX5_shrunk 71 = .ok (.iconst 1, 1) := by decide +kernel
theorem dX5_shrunk_72 : decode cX5_shrunk 72 = .ok (.iadd, 1) := by decide +kernel
theorem dX5_shrunk_73 : decode cX5_shrunk 73 = .ok (.invokestatic 72, 3) := by decide +kernel
theorem dX5_shrunk_76 : decode cX5_shrunk 76 = .ok (.ifCond .eq 27, 3) := by decide +kernel
theorem dX5_shrunk_79 : decode cX5_shrunk 79 = .ok (.iload_n 0, 1) := by decide +kernel
theorem dX5_shrunk_80 : decode cX5_shrunk 80 = .ok (.iload_n 2, 1) := by decide +kernel
theorem dX5_shrunk_81 : decode cX5_shrunk 81 = .ok (.iconst 4, 1) := by decide +kernel
theorem dX5_shrunk_82 : decode cX5_shrunk 82 = .ok (.isub, 1) := by decide +kernel
theorem dX5_shrunk_83 : decode cX5_shrunk 83 = .ok (.invokestatic 72, 3) := by decide +kernel
theorem dX5_shrunk_86 : decode cX5_shrunk 86 = .ok (.ifCond .eq 17, 3) := by decide +kernel
theorem dX5_shrunk_89 : decode cX5_shrunk 89 = .ok (.iload_n 0, 1) := by decide +kernel
theorem dX5_shrunk_90 : decode cX5_shrunk 90 = .ok (.iload_n 2, 1) := by decide +kernel
theorem dX5_shrunk_91 : decode cX5_shrunk 91 = .ok (.iconst 4, 1) := by decide +kernel
theorem dX5_shrunk_92 : decode cX5_shrunk 92 = .ok (.iadd, 1) := by decide +kernel
theorem dX5_shrunk_93 : decode cX5_shrunk 93 = .ok (.invokestatic 72, 3) := by decide +kernel
theorem dX5_shrunk_96 : decode cX5_shrunk 96 = .ok (.ifCond .eq 7, 3) := by decide +kernel
theorem dX5_shrunk_99 : decode cX5_shrunk 99 = .ok (.iconst 1, 1) := by decide +kernel
theorem dX5_shrunk_100 : decode cX5_shrunk 100 = .ok (.goto 4, 3) := by decide +kernel
theorem dX5_shrunk_103 : decode cX5_shrunk 103 = .ok (.iconst 0, 1) := by decide +kernel
theorem dX5_shrunk_104 : decode cX5_shrunk 104 = .ok (.istore 6, 2) := by decide +kernel
theorem dX5_shrunk_106 : decode cX5_shrunk 106 = .ok (.iload_n 1, 1) := by decide +kernel
theorem dX5_shrunk_107 : decode cX5_shrunk 107 = .ok (.iload 6, 2) := by decide +kernel
theorem dX5_shrunk_109 : decode cX5_shrunk 109 = .ok (.ifCond .eq 9, 3) := by decide +kernel
theorem dX5_shrunk_112 : decode cX5_shrunk 112 = .ok (.iconst 1, 1) := by decide +kernel
theorem dX5_shrunk_113 : decode cX5_shrunk 113 = .ok (.iload_n 2, 1) := by decide +kernel
theorem dX5_shrunk_114 : decode cX5_shrunk 114 = .ok (.ishl, 1) := by decide +kernel
theorem dX5_shrunk_115 : decode cX5_shrunk 115 = .ok (.goto 4, 3) := by decide +kernel
theorem dX5_shrunk_118 : decode cX5_shrunk 118 = .ok (.iconst 0, 1) := by decide +kernel
theorem dX5_shrunk_119 : decode cX5_shrunk 119 = .ok (.ior, 1) := by decide +kernel
theorem dX5_shrunk_120 : decode cX5_shrunk 120 = .ok (.istore_n 1, 1) := by decide +kernel
theorem dX5_shrunk_121 : decode cX5_shrunk 121 = .ok (.iinc 2 1, 3) := by decide +kernel
theorem dX5_shrunk_124 : decode cX5_shrunk 124 = .ok (.goto (-120), 3) := by decide +kernel
theorem dX5_shrunk_127 : decode cX5_shrunk 127 = .ok (.iload_n 1, 1) := by decide +kernel
theorem dX5_shrunk_128 : decode cX5_shrunk 128 = .ok (.ireturn, 1) := by decide +kernel
theorem dX5_shrinks_0 : decode cX5_shrinks 0 = .ok (.iload_n 1, 1) := by decide +kernel
theorem dX5_shrinks_1 : decode cX5_shrinks 1 = .ok (.invokestatic 62, 3) := by decide +kernel
theorem dX5_shrinks_4 : decode cX5_shrinks 4 = .ok (.ifCond .eq 15, 3) := by decide +kernel
theorem dX5_shrinks_7 : decode cX5_shrinks 7 = .ok (.iload_n 2, 1) := by decide +kernel
theorem dX5_shrinks_8 : decode cX5_shrinks 8 = .ok (.i2l, 1) := by decide +kernel
theorem dX5_shrinks_9 : decode cX5_shrinks 9 = .ok (.lconst 0, 1) := by decide +kernel
theorem dX5_shrinks_10 : decode cX5_shrinks 10 = .ok (.ldc2_w 193, 3) := by decide +kernel
theorem dX5_shrinks_13 : decode cX5_shrinks 13 = .ok (.invokestatic 54, 3) := by decide +kernel
theorem dX5_shrinks_16 : decode cX5_shrinks 16 = .ok (.ifCond .ne 8, 3) := by decide +kernel
theorem dX5_shrinks_19 : decode cX5_shrinks 19 = .ok (.aload_n 0, 1) := by decide +kernel
theorem dX5_shrinks_20 : decode cX5_shrinks 20 = .ok (.invokevirtual 110, 3) := by decide +kernel
theorem dX5_shrinks_23 : decode cX5_shrinks 23 = .ok (.ireturn, 1) := by decide +kernel
theorem dX5_shrinks_24 : decode cX5_shrinks 24 = .ok (.aload_n 0, 1) := by decide +kernel
theorem dX5_shrinks_25 : decode cX5_shrinks 25 = .ok (.getfield 7, 3) := by decide +kernel
theorem dX5_shrinks_28 : decode cX5_shrinks 28 = .ok (.bipush 65, 2) := by decide +kernel
theorem dX5_shrinks_30 : decode cX5_shrinks 30 = .ok (.iload_n 1, 1) := by decide +kernel
theorem dX5_shrinks_31 : decode cX5_shrinks 31 = .ok (.iadd, 1) := by decide +kernel
theorem dX5_shrinks_32 : decode cX5_shrinks 32 = .ok (.iaload, 1) := by decide +kernel
theorem dX5_shrinks_33 : decode cX5_shrinks 33 = .ok (.istore_n 3, 1) := by decide +kernel
theorem dX5_shrinks_34 : decode cX5_shrinks 34 = .ok (.iconst 0, 1) := by decide +kernel
theorem dX5_shrinks_35 : decode cX5_shrinks 35 = .ok (.istore 4, 2) := by decide +kernel
theorem dX5_shrinks_37 : decode cX5_shrinks 37 = .ok (.iload 4, 2) := by decide +kernel
theorem dX5_shrinks_39 : decode cX5_shrinks 39 = .ok (.iload_n 2, 1) := by decide +kernel
theorem dX5_shrinks_40 : decode cX5_shrinks 40 = .ok (.if_icmp .ge 14, 3) := by decide +kernel
theorem dX5_shrinks_43 : decode cX5_shrinks 43 = .ok (.iload_n 3, 1) := by decide +kernel
theorem dX5_shrinks_44 : decode cX5_shrinks 44 = .ok (.invokestatic 213, 3) := by decide +kernel
theorem dX5_shrinks_47 : decode cX5_shrinks 47 = .ok (.istore_n 3, 1) := by decide +kernel
theorem dX5_shrinks_48 : decode cX5_shrinks 48 = .ok (.iinc 4 1, 3) := by decide +kernel
theorem dX5_shrinks_51 : decode cX5_shrinks 51 = .ok (.goto (-14), 3) := by decide +kernel
theorem dX5_shrinks_54 : decode cX5_shrinks 54 = .ok (.iload_n 3, 1) := by decide +kernel
theorem dX5_shrinks_55 : decode cX5_shrinks 55 = .ok (.ireturn, 1) := by decide +kernel
theorem dX5_gone_0 : decode cX5_gone 0 = .ok (.iload_n 1, 1) := by decide +kernel
theorem dX5_gone_1 : decode cX5_gone 1 = .ok (.invokestatic 62, 3) := by decide +kernel
theorem dX5_gone_4 : decode cX5_gone 4 = .ok (.ifCond .ne 8, 3) := by decide +kernel
theorem dX5_gone_7 : decode cX5_gone 7 = .ok (.aload_n 0, 1) := by decide +kernel
theorem dX5_gone_8 : decode cX5_gone 8 = .ok (.invokevirtual 110, 3) := by decide +kernel
theorem dX5_gone_11 : decode cX5_gone 11 = .ok (.ireturn, 1) := by decide +kernel
theorem dX5_gone_12 : decode cX5_gone 12 = .ok (.iconst 0, 1) := by decide +kernel
theorem dX5_gone_13 : decode cX5_gone 13 = .ok (.istore_n 2, 1) := by decide +kernel
theorem dX5_gone_14 : decode cX5_gone 14 = .ok (.aload_n 0, 1) := by decide +kernel
theorem dX5_gone_15 : decode cX5_gone 15 = .ok (.getfield 7, 3) := by decide +kernel
theorem dX5_gone_18 : decode cX5_gone 18 = .ok (.bipush 65, 2) := by decide +kernel
theorem dX5_gone_20 : decode cX5_gone 20 = .ok (.iload_n 1, 1) := by decide +kernel
theorem dX5_gone_21 : decode cX5_gone 21 = .ok (.iadd, 1) := by decide +kernel
theorem dX5_gone_22 : decode cX5_gone 22 = .ok (.iaload, 1) := by decide +kernel
theorem dX5_gone_23 : decode cX5_gone 23 = .ok (.istore_n 3, 1) := by decide +kernel
theorem dX5_gone_24 : decode cX5_gone 24 = .ok (.iload_n 3, 1) := by decide +kernel
theorem dX5_gone_25 : decode cX5_gone 25 = .ok (.ifCond .eq 14, 3) := by decide +kernel
theorem dX5_gone_28 : decode cX5_gone 28 = .ok (.iinc 2 1, 3) := by decide +kernel
theorem dX5_gone_31 : decode cX5_gone 31 = .ok (.iload_n 3, 1) := by decide +kernel
theorem dX5_gone_32 : decode cX5_gone 32 = .ok (.invokestatic 213, 3) := by decide +kernel
theorem dX5_gone_35 : decode cX5_gone 35 = .ok (.istore_n 3, 1) := by decide +kernel
theorem dX5_gone_36 : decode cX5_gone 36 = .ok (.goto (-12), 3) := by decide +kernel
theorem dX5_gone_39 : decode cX5_gone 39 = .ok (.iload_n 2, 1) := by decide +kernel
theorem dX5_gone_40 : decode cX5_gone 40 = .ok (.ireturn, 1) := by decide +kernel
theorem dX5_seen_0 : decode cX5_seen 0 = .ok (.iload_n 1, 1) := by decide +kernel
theorem dX5_seen_1 : decode cX5_seen 1 = .ok (.iload_n 2, 1) := by decide +kernel
theorem dX5_seen_2 : decode cX5_seen 2 = .ok (.invokestatic 66, 3) := by decide +kernel
theorem dX5_seen_5 : decode cX5_seen 5 = .ok (.ifCond .eq 10, 3) := by decide +kernel
theorem dX5_seen_8 : decode cX5_seen 8 = .ok (.iload_n 3, 1) := by decide +kernel
theorem dX5_seen_9 : decode cX5_seen 9 = .ok (.invokestatic 62, 3) := by decide +kernel
theorem dX5_seen_12 : decode cX5_seen 12 = .ok (.ifCond .ne 8, 3) := by decide +kernel
theorem dX5_seen_15 : decode cX5_seen 15 = .ok (.aload_n 0, 1) := by decide +kernel
theorem dX5_seen_16 : decode cX5_seen 16 = .ok (.invokevirtual 110, 3) := by decide +kernel
theorem dX5_seen_19 : decode cX5_seen 19 = .ok (.ireturn, 1) := by decide +kernel
theorem dX5_seen_20 : decode cX5_seen 20 = .ok (.aload_n 0, 1) := by decide +kernel
theorem dX5_seen_21 : decode cX5_seen 21 = .ok (.getfield 7, 3) := by decide +kernel
theorem dX5_seen_24 : decode cX5_seen 24 = .ok (.bipush 76, 2) := by decide +kernel
theorem dX5_seen_26 : decode cX5_seen 26 = .ok (.iaload, 1) := by decide +kernel
theorem dX5_seen_27 : decode cX5_seen 27 = .ok (.bipush 8, 2) := by decide +kernel
theorem dX5_seen_29 : decode cX5_seen 29 = .ok (.if_icmp .ne 8, 3) := by decide +kernel
theorem dX5_seen_32 : decode cX5_seen 32 = .ok (.aload_n 0, 1) := by decide +kernel
theorem dX5_seen_33 : decode cX5_seen 33 = .ok (.invokevirtual 141, 3) := by decide +kernel
theorem dX5_seen_36 : decode cX5_seen 36 = .ok (.ireturn, 1) := by decide +kernel
theorem dX5_seen_37 : decode cX5_seen 37 = .ok (.aload_n 0, 1) := by decide +kernel
theorem dX5_seen_38 : decode cX5_seen 38 = .ok (.getfield 7, 3) := by decide +kernel
theorem dX5_seen_41 : decode cX5_seen 41 = .ok (.bipush 77, 2) := by decide +kernel
theorem dX5_seen_43 : decode cX5_seen 43 = .ok (.aload_n 0, 1) := by decide +kernel
theorem dX5_seen_44 : decode cX5_seen 44 = .ok (.getfield 7, 3) := by decide +kernel
theorem dX5_seen_47 : decode cX5_seen 47 = .ok (.bipush 76, 2) := by decide +kernel
theorem dX5_seen_49 : decode cX5_seen 49 = .ok (.iaload, 1) := by decide +kernel
theorem dX5_seen_50 : decode cX5_seen 50 = .ok (.iadd, 1) := by decide +kernel
theorem dX5_seen_51 : decode cX5_seen 51 = .ok (.iconst 2, 1) := by decide +kernel
theorem dX5_seen_52 : decode cX5_seen 52 = .ok (.bipush 8, 2) := by decide +kernel
theorem dX5_seen_54 : decode cX5_seen 54 = .ok (.iload_n 2, 1) := by decide +kernel
theorem dX5_seen_55 : decode cX5_seen 55 = .ok (.imul, 1) := by decide +kernel
theorem dX5_seen_56 : decode cX5_seen 56 = .ok (.iload_n 1, 1) := by decide +kernel
theorem dX5_seen_57 : decode cX5_seen 57 = .ok (.iadd, 1) := by decide +kernel
theorem dX5_seen_58 : decode cX5_seen 58 = .ok (.imul, 1) := by decide +kernel
theorem dX5_seen_59 : decode cX5_seen 59 = .ok (.iload_n 3, 1) := by decide +kernel
theorem dX5_seen_60 : decode cX5_seen 60 = .ok (.iadd, 1) := by decide +kernel
theorem dX5_seen_61 : decode cX5_seen 61 = .ok (.iastore, 1) := by decide +kernel
theorem dX5_seen_62 : decode cX5_seen 62 = .ok (.aload_n 0, 1) := by decide +kernel
theorem dX5_seen_63 : decode cX5_seen 63 = .ok (.getfield 7, 3) := by decide +kernel
theorem dX5_seen_66 : decode cX5_seen 66 = .ok (.bipush 76, 2) := by decide +kernel
theorem dX5_seen_68 : decode cX5_seen 68 = .ok (.dup2, 1) := by decide +kernel
theorem dX5_seen_69 : decode cX5_seen 69 = .ok (.iaload, 1) := by decide +kernel
theorem dX5_seen_70 : decode cX5_seen 70 = .ok (.iconst 1, 1) := by decide +kernel
theorem dX5_seen_71 : decode cX5_seen 71 = .ok (.iadd, 1) := by decide +kernel
theorem dX5_seen_72 : decode cX5_seen 72 = .ok (.iastore, 1) := by decide +kernel
theorem dX5_seen_73 : decode cX5_seen 73 = .ok (.aload_n 0, 1) := by decide +kernel
theorem dX5_seen_74 : decode cX5_seen 74 = .ok (.getfield 7, 3) := by decide +kernel
theorem dX5_seen_77 : decode cX5_seen 77 = .ok (.bipush 76, 2) := by decide +kernel
theorem dX5_seen_79 : decode cX5_seen 79 = .ok (.iaload, 1) := by decide +kernel
theorem dX5_seen_80 : decode cX5_seen 80 = .ok (.ireturn, 1) := by decide +kernel
theorem dX5_forget_0 : decode cX5_forget 0 = .ok (.iload_n 1, 1) := by decide +kernel
theorem dX5_forget_1 : decode cX5_forget 1 = .ok (.invokestatic 62, 3) := by decide +kernel
theorem dX5_forget_4 : decode cX5_forget 4 = .ok (.ifCond .ne 8, 3) := by decide +kernel
theorem dX5_forget_7 : decode cX5_forget 7 = .ok (.aload_n 0, 1) := by decide +kernel
theorem dX5_forget_8 : decode cX5_forget 8 = .ok (.invokevirtual 110, 3) := by decide +kernel
theorem dX5_forget_11 : decode cX5_forget 11 = .ok (.ireturn, 1) := by decide +kernel
theorem dX5_forget_12 : decode cX5_forget 12 = .ok (.iload_n 1, 1) := by decide +kernel
theorem dX5_forget_13 : decode cX5_forget 13 = .ok (.ifCond .ne 8, 3) := by decide +kernel
theorem dX5_forget_16 : decode cX5_forget 16 = .ok (.bipush 67, 2) := by decide +kernel
theorem dX5_forget_18 : decode cX5_forget 18 = .ok (.goto 5, 3) := by decide +kernel
theorem dX5_forget_21 : decode cX5_forget 21 = .ok (.bipush 76, 2) := by decide +kernel
theorem dX5_forget_23 : decode cX5_forget 23 = .ok (.istore_n 2, 1) := by decide +kernel
theorem dX5_forget_24 : decode cX5_forget 24 = .ok (.aload_n 0, 1) := by decide +kernel
theorem dX5_forget_25 : decode cX5_forget 25 = .ok (.getfield 7, 3) := by decide +kernel
theorem dX5_forget_28 : decode cX5_forget 28 = .ok (.iload_n 2, 1) := by decide +kernel
theorem dX5_forget_29 : decode cX5_forget 29 = .ok (.iaload, 1) := by decide +kernel
theorem dX5_forget_30 : decode cX5_forget 30 = .ok (.istore_n 3, 1) := by decide +kernel
theorem dX5_forget_31 : decode cX5_forget 31 = .ok (.aload_n 0, 1) := by decide +kernel
theorem dX5_forget_32 : decode cX5_forget 32 = .ok (.getfield 7, 3) := by decide +kernel
theorem dX5_forget_35 : decode cX5_forget 35 = .ok (.iload_n 2, 1) := by decide +kernel
theorem dX5_forget_36 : decode cX5_forget 36 = .ok (.iconst 0, 1) := by decide +kernel
theorem dX5_forget_37 : decode cX5_forget 37 = .ok (.iastore, 1) := by decide +kernel
theorem dX5_forget_38 : decode cX5_forget 38 = .ok (.iload_n 3, 1) := by decide +kernel
theorem dX5_forget_39 : decode cX5_forget 39 = .ok (.ireturn, 1) := by decide +kernel
theorem dX5_canBe_0 : decode cX5_canBe 0 = .ok (.aload_n 0, 1) := by decide +kernel
theorem dX5_canBe_1 : decode cX5_canBe 1 = .ok (.iload_n 1, 1) := by decide +kernel
theorem dX5_canBe_2 : decode cX5_canBe 2 = .ok (.iload_n 2, 1) := by decide +kernel
theorem dX5_canBe_3 : decode cX5_canBe 3 = .ok (.bipush 64, 2) := by decide +kernel
theorem dX5_canBe_5 : decode cX5_canBe 5 = .ok (.idiv, 1) := by decide +kernel
theorem dX5_canBe_6 : decode cX5_canBe 6 = .ok (.invokevirtual 90, 3) := by decide +kernel
theorem dX5_canBe_9 : decode cX5_canBe 9 = .ok (.istore_n 3, 1) := by decide +kernel
theorem dX5_canBe_10 : decode cX5_canBe 10 = .ok (.iconst 1, 1) := by decide +kernel
theorem dX5_canBe_11 : decode cX5_canBe 11 = .ok (.istore 4, 2) := by decide +kernel
theorem dX5_canBe_13 : decode cX5_canBe 13 = .ok (.iconst 0, 1) := by decide +kernel
theorem dX5_canBe_14 : decode cX5_canBe 14 = .ok (.istore 5, 2) := by decide +kernel
theorem dX5_canBe_16 : decode cX5_canBe 16 = .ok (.iload 5, 2) := by decide +kernel
theorem dX5_canBe_18 : decode cX5_canBe 18 = .ok (.aload_n 0, 1) := by decide +kernel
theorem dX5_canBe_19 : decode cX5_canBe 19 = .ok (.getfield 7, 3) := by decide +kernel
theorem dX5_canBe_22 : decode cX5_canBe 22 = .ok (.bipush 76, 2) := by decide +kernel
theorem dX5_canBe_24 : decode cX5_canBe 24 = .ok (.iaload, 1) := by decide +kernel
theorem dX5_canBe_25 : decode cX5_canBe 25 = .ok (.if_icmp .ge 68, 3) := by decide +kernel
theorem dX5_canBe_28 : decode cX5_canBe 28 = .ok (.aload_n 0, 1) := by decide +kernel
theorem dX5_canBe_29 : decode cX5_canBe 29 = .ok (.getfield 7, 3) := by decide +kernel
theorem dX5_canBe_32 : decode cX5_canBe 32 = .ok (.bipush 77, 2) := by decide +kernel
theorem dX5_canBe_34 : decode cX5_canBe 34 = .ok (.iload 5, 2) := by decide +kernel
theorem dX5_canBe_36 : decode cX5_canBe 36 = .ok (.iadd, 1) := by decide +kernel
theorem dX5_canBe_37 : decode cX5_canBe 37 = .ok (.iaload, 1) := by decide +kernel
theorem dX5_canBe_38 : decode cX5_canBe 38 = .ok (.istore 6, 2) := by decide +kernel
theorem dX5_canBe_40 : decode cX5_canBe 40 = .ok (.iload 4, 2) := by decide +kernel
theorem dX5_canBe_42 : decode cX5_canBe 42 = .ok (.ifCond .eq 42, 3) := by decide +kernel
theorem dX5_canBe_45 : decode cX5_canBe 45 = .ok (.iload_n 3, 1) := by decide +kernel
theorem dX5_canBe_46 : decode cX5_canBe 46 = .ok (.iload_n 2, 1) := by decide +kernel
theorem dX5_canBe_47 : decode cX5_canBe 47 = .ok (.bipush 8, 2) := by decide +kernel
theorem dX5_canBe_49 : decode cX5_canBe 49 = .ok (.irem, 1) := by decide +kernel
theorem dX5_canBe_50 : decode cX5_canBe 50 = .ok (.iload_n 2, 1) := by decide +kernel
theorem dX5_canBe_51 : decode cX5_canBe 51 = .ok (.bipush 8, 2) := by decide +kernel
theorem dX5_canBe_53 : decode cX5_canBe 53 = .ok (.idiv, 1) := by decide +kernel
theorem dX5_canBe_54 : decode cX5_canBe 54 = .ok (.bipush 8, 2) := by decide +kernel
theorem dX5_canBe_56 : decode cX5_canBe 56 = .ok (.irem, 1) := by decide +kernel
theorem dX5_canBe_57 : decode cX5_canBe 57 = .ok (.iload 6, 2) := by decide +kernel
theorem dX5_canBe_59 : decode cX5_canBe 59 = .ok (.iconst 2, 1) := by decide +kernel
theorem dX5_canBe_60 : decode cX5_canBe 60 = .ok (.idiv, 1) := by decide +kernel
theorem dX5_canBe_61 : decode cX5_canBe 61 = .ok (.invokestatic 200, 3) := by decide +kernel
theorem dX5_canBe_64 : decode cX5_canBe 64 = .ok (.iload 6, 2) := by decide +kernel
theorem dX5_canBe_66 : decode cX5_canBe 66 = .ok (.iconst 2, 1) := by decide +kernel
theorem dX5_canBe_67 : decode cX5_canBe 67 = .ok (.irem, 1) := by decide +kernel
theorem dX5_canBe_68 : decode cX5_canBe 68 = .ok (.iconst 1, 1) := by decide +kernel
theorem dX5_canBe_69 : decode cX5_canBe 69 = .ok (.if_icmp .ne 7, 3) := by decide +kernel
theorem dX5_canBe_72 : decode cX5_canBe 72 = .ok (.iconst 1, 1) := by decide +kernel
theorem dX5_canBe_73 : decode cX5_canBe 73 = .ok (.goto 4, 3) := by decide +kernel
theorem dX5_canBe_76 : decode cX5_canBe 76 = .ok (.iconst 0, 1) := by decide +kernel
theorem dX5_canBe_77 : decode cX5_canBe 77 = .ok (.if_icmp .ne 7, 3) := by decide +kernel
theorem dX5_canBe_80 : decode cX5_canBe 80 = .ok (.iconst 1, 1) := by decide +kernel
theorem dX5_canBe_81 : decode cX5_canBe 81 = .ok (.goto 4, 3) := by decide +kernel
theorem dX5_canBe_84 : decode cX5_canBe 84 = .ok (.iconst 0, 1) := by decide +kernel
theorem dX5_canBe_85 : decode cX5_canBe 85 = .ok (.istore 4, 2) := by decide +kernel
theorem dX5_canBe_87 : decode cX5_canBe 87 = .ok (.iinc 5 1, 3) := by decide +kernel
theorem dX5_canBe_90 : decode cX5_canBe 90 = .ok (.goto (-74), 3) := by decide +kernel
theorem dX5_canBe_93 : decode cX5_canBe 93 = .ok (.iload 4, 2) := by decide +kernel
theorem dX5_canBe_95 : decode cX5_canBe 95 = .ok (.ireturn, 1) := by decide +kernel
theorem dX5_which_0 : decode cX5_which 0 = .ok (.iload_n 1, 1) := by decide +kernel
theorem dX5_which_1 : decode cX5_which 1 = .ok (.invokestatic 62, 3) := by decide +kernel
theorem dX5_which_4 : decode cX5_which 4 = .ok (.ifCond .eq 10, 3) := by decide +kernel
theorem dX5_which_7 : decode cX5_which 7 = .ok (.iload_n 2, 1) := by decide +kernel
theorem dX5_which_8 : decode cX5_which 8 = .ok (.invokestatic 62, 3) := by decide +kernel
theorem dX5_which_11 : decode cX5_which 11 = .ok (.ifCond .ne 11, 3) := by decide +kernel
theorem dX5_which_14 : decode cX5_which 14 = .ok (.aload_n 0, 1) := by decide +kernel
theorem dX5_which_15 : decode cX5_which 15 = .ok (.invokevirtual 110, 3) := by decide +kernel
theorem dX5_which_18 : decode cX5_which 18 = .ok (.pop, 1) := by decide +kernel
theorem dX5_which_19 : decode cX5_which 19 = .ok (.bipush (-10), 2) := by decide +kernel
theorem dX5_which_21 : decode cX5_which 21 = .ok (.ireturn, 1) := by decide +kernel
theorem dX5_which_22 : decode cX5_which 22 = .ok (.iconst 0, 1) := by decide +kernel
theorem dX5_which_23 : decode cX5_which 23 = .ok (.istore_n 3, 1) := by decide +kernel
theorem dX5_which_24 : decode cX5_which 24 = .ok (.iconst (-1), 1) := by decide +kernel
theorem dX5_which_25 : decode cX5_which 25 = .ok (.istore 4, 2) := by decide +kernel
theorem dX5_which_27 : decode cX5_which 27 = .ok (.sipush 255, 3) := by decide +kernel
theorem dX5_which_30 : decode cX5_which 30 = .ok (.istore 5, 2) := by decide +kernel
theorem dX5_which_32 : decode cX5_which 32 = .ok (.iload 5, 2) := by decide +kernel
theorem dX5_which_34 : decode cX5_which 34 = .ok (.ifCond .lt 48, 3) := by decide +kernel
theorem dX5_which_37 : decode cX5_which 37 = .ok (.aload_n 0, 1) := by decide +kernel
theorem dX5_which_38 : decode cX5_which 38 = .ok (.iload_n 1, 1) := by decide +kernel
theorem dX5_which_39 : decode cX5_which 39 = .ok (.iload 5, 2) := by decide +kernel
theorem dX5_which_41 : decode cX5_which 41 = .ok (.invokevirtual 216, 3) := by decide +kernel
theorem dX5_which_44 : decode cX5_which 44 = .ok (.istore 6, 2) := by decide +kernel
theorem dX5_which_46 : decode cX5_which 46 = .ok (.iload_n 3, 1) := by decide +kernel
theorem dX5_which_47 : decode cX5_which 47 = .ok (.iload 6, 2) := by decide +kernel
theorem dX5_which_49 : decode cX5_which 49 = .ok (.ifCond .eq 7, 3) := by decide +kernel
theorem dX5_which_52 : decode cX5_which 52 = .ok (.iconst 1, 1) := by decide +kernel
theorem dX5_which_53 : decode cX5_which 53 = .ok (.goto 4, 3) := by decide +kernel
theorem dX5_which_56 : decode cX5_which 56 = .ok (.iconst 0, 1) := by decide +kernel
theorem dX5_which_57 : decode cX5_which 57 = .ok (.iadd, 1) := by decide +kernel
theorem dX5_which_58 : decode cX5_which 58 = .ok (.istore_n 3, 1) := by decide +kernel
theorem dX5_which_59 : decode cX5_which 59 = .ok (.iload 6, 2) := by decide +kernel
theorem dX5_which_61 : decode cX5_which 61 = .ok (.ifCond .eq 11, 3) := by decide +kernel
theorem dX5_which_64 : decode cX5_which 64 = .ok (.iload 5, 2) := by decide +kernel
theorem dX5_which_66 : decode cX5_which 66 = .ok (.invokestatic 210, 3) := by decide +kernel
theorem dX5_which_69 : decode cX5_which 69 = .ok (.goto 5, 3) := by decide +kernel
theorem dX5_which_72 : decode cX5_which 72 = .ok (.iload 4, 2) := by decide +kernel
theorem dX5_which_74 : decode cX5_which 74 = .ok (.istore 4, 2) := by decide +kernel
theorem dX5_which_76 : decode cX5_which 76 = .ok (.iinc 5 (-1), 3) := by decide +kernel
theorem dX5_which_79 : decode cX5_which 79 = .ok (.goto (-47), 3) := by decide +kernel
theorem dX5_which_82 : decode cX5_which 82 = .ok (.iload_n 2, 1) := by decide +kernel
theorem dX5_which_83 : decode cX5_which 83 = .ok (.ifCond .ne 7, 3) := by decide +kernel
theorem dX5_which_86 : decode cX5_which 86 = .ok (.iload_n 3, 1) := by decide +kernel
theorem dX5_which_87 : decode cX5_which 87 = .ok (.goto 5, 3) := by decide +kernel
theorem dX5_which_90 : decode cX5_which 90 = .ok (.iload 4, 2) := by decide +kernel
theorem dX5_which_92 : decode cX5_which 92 = .ok (.ireturn, 1) := by decide +kernel
theorem dX5_look_0 : decode cX5_look 0 = .ok (.iload_n 1, 1) := by decide +kernel
theorem dX5_look_1 : decode cX5_look 1 = .ok (.invokestatic 62, 3) := by decide +kernel
theorem dX5_look_4 : decode cX5_look 4 = .ok (.ifCond .ne 8, 3) := by decide +kernel
theorem dX5_look_7 : decode cX5_look 7 = .ok (.aload_n 0, 1) := by decide +kernel
theorem dX5_look_8 : decode cX5_look 8 = .ok (.invokevirtual 110, 3) := by decide +kernel
theorem dX5_look_11 : decode cX5_look 11 = .ok (.ireturn, 1) := by decide +kernel
theorem dX5_look_12 : decode cX5_look 12 = .ok (.iconst 0, 1) := by decide +kernel
theorem dX5_look_13 : decode cX5_look 13 = .ok (.istore_n 2, 1) := by decide +kernel
theorem dX5_look_14 : decode cX5_look 14 = .ok (.iload_n 2, 1) := by decide +kernel
theorem dX5_look_15 : decode cX5_look 15 = .ok (.bipush 64, 2) := by decide +kernel
theorem dX5_look_17 : decode cX5_look 17 = .ok (.if_icmp .ge 16, 3) := by decide +kernel
theorem dX5_look_20 : decode cX5_look 20 = .ok (.aload_n 0, 1) := by decide +kernel
theorem dX5_look_21 : decode cX5_look 21 = .ok (.getfield 35, 3) := by decide +kernel
theorem dX5_look_24 : decode cX5_look 24 = .ok (.iload_n 2, 1) := by decide +kernel
theorem dX5_look_25 : decode cX5_look 25 = .ok (.iconst 0, 1) := by decide +kernel
theorem dX5_look_26 : decode cX5_look 26 = .ok (.iastore, 1) := by decide +kernel
theorem dX5_look_27 : decode cX5_look 27 = .ok (.iinc 2 1, 3) := by decide +kernel
theorem dX5_look_30 : decode cX5_look 30 = .ok (.goto (-16), 3) := by decide +kernel
theorem dX5_look_33 : decode cX5_look 33 = .ok (.iconst 0, 1) := by decide +kernel
theorem dX5_look_34 : decode cX5_look 34 = .ok (.istore_n 2, 1) := by decide +kernel
theorem dX5_look_35 : decode cX5_look 35 = .ok (.iconst 0, 1) := by decide +kernel
theorem dX5_look_36 : decode cX5_look 36 = .ok (.istore_n 3, 1) := by decide +kernel
theorem dX5_look_37 : decode cX5_look 37 = .ok (.iload_n 3, 1) := by decide +kernel
theorem dX5_look_38 : decode cX5_look 38 = .ok (.sipush 256, 3) := by decide +kernel
theorem dX5_look_41 : decode cX5_look 41 = .ok (.if_icmp .ge 84, 3) := by decide +kernel
theorem dX5_look_44 : decode cX5_look 44 = .ok (.aload_n 0, 1) := by decide +kernel
theorem dX5_look_45 : decode cX5_look 45 = .ok (.iload_n 1, 1) := by decide +kernel
theorem dX5_look_46 : decode cX5_look 46 = .ok (.iload_n 3, 1) := by decide +kernel
theorem dX5_look_47 : decode cX5_look 47 = .ok (.invokevirtual 216, 3) := by decide +kernel
theorem dX5_look_50 : decode cX5_look 50 = .ok (.ifCond .eq 69, 3) := by decide +kernel
theorem dX5_look_53 : decode cX5_look 53 = .ok (.aload_n 0, 1) := by decide +kernel
theorem dX5_look_54 : decode cX5_look 54 = .ok (.iload_n 1, 1) := by decide +kernel
theorem dX5_look_55 : decode cX5_look 55 = .ok (.iload_n 3, 1) := by decide +kernel
theorem dX5_look_56 : decode cX5_look 56 = .ok (.bipush 64, 2) := by decide +kernel
theorem dX5_look_58 : decode cX5_look 58 = .ok (.idiv, 1) := by decide +kernel
theorem dX5_look_59 : decode cX5_look 59 = .ok (.invokevirtual 90, 3) := by decide +kernel
theorem dX5_look_62 : decode cX5_look 62 = .ok (.istore 4, 2) := by decide +kernel
theorem dX5_look_64 : decode cX5_look 64 = .ok (.iinc 2 1, 3) := by decide +kernel
theorem dX5_look_67 : decode cX5_look 67 = .ok (.iconst 0, 1) := by decide +kernel
theorem dX5_look_68 : decode cX5_look 68 = .ok (.istore 5, 2) := by decide +kernel
theorem dX5_look_70 : decode cX5_look 70 = .ok (.iload 5, 2) := by decide +kernel
theorem dX5_look_72 : decode cX5_look 72 = .ok (.bipush 64, 2) := by decide +kernel
theorem dX5_look_74 : decode cX5_look 74 = .ok (.if_icmp .ge 45, 3) := by decide +kernel
theorem dX5_look_77 : decode cX5_look 77 = .ok (.aload_n 0, 1) := by decide +kernel
theorem dX5_look_78 : decode cX5_look 78 = .ok (.getfield 35, 3) := by decide +kernel
theorem dX5_look_81 : decode cX5_look 81 = .ok (.iload 5, 2) := by decide +kernel
theorem dX5_look_83 : decode cX5_look 83 = .ok (.dup2, 1) := by decide +kernel
theorem dX5_look_84 : decode cX5_look 84 = .ok (.iaload, 1) := by decide +kernel
theorem dX5_look_85 : decode cX5_look 85 = .ok (.iload 4, 2) := by decide +kernel
theorem dX5_look_87 : decode cX5_look 87 = .ok (.iload_n 3, 1) := by decide +kernel
theorem dX5_look_88 : decode cX5_look 88 = .ok (.bipush 8, 2) := by decide +kernel
theorem dX5_look_90 : decode cX5_look 90 = .ok (.irem, 1) := by decide +kernel
theorem dX5_look_91 : decode cX5_look 91 = .ok (.iload_n 3, 1) := by decide +kernel
theorem dX5_look_92 : decode cX5_look 92 = .ok (.bipush 8, 2) := by decide +kernel
theorem dX5_look_94 : decode cX5_look 94 = .ok (.idiv, 1) := by decide +kernel
theorem dX5_look_95 : decode cX5_look 95 = .ok (.bipush 8, 2) := by decide +kernel
theorem dX5_look_97 : decode cX5_look 97 = .ok (.irem, 1) := by decide +kernel
theorem dX5_look_98 : decode cX5_look 98 = .ok (.iload 5, 2) := by decide +kernel
theorem dX5_look_100 : decode cX5_look 100 = .ok (.invokestatic 200, 3) := by decide +kernel
theorem dX5_look_103 : decode cX5_look 103 = .ok (.ifCond .eq 7, 3) := by decide +kernel
theorem dX5_look_106 : decode cX5_look 106 = .ok (.iconst 1, 1) := by decide +kernel
theorem dX5_look_107 : decode cX5_look 107 = .ok (.goto 4, 3) := by decide +kernel
theorem dX5_look_110 : decode cX5_look 110 = .ok (.iconst 0, 1) := by decide +kernel
theorem dX5_look_111 : decode cX5_look 111 = .ok (.iadd, 1) := by decide +kernel
theorem dX5_look_112 : decode cX5_look 112 = .ok (.iastore, 1) := by decide +kernel
theorem dX5_look_113 : decode cX5_look 113 = .ok (.iinc 5 1, 3) := by decide +kernel
theorem dX5_look_116 : decode cX5_look 116 = .ok (.goto (-46), 3) := by decide +kernel
theorem dX5_look_119 : decode cX5_look 119 = .ok (.iinc 3 1, 3) := by decide +kernel
theorem dX5_look_122 : decode cX5_look 122 = .ok (.goto (-85), 3) := by decide +kernel
theorem dX5_look_125 : decode cX5_look 125 = .ok (.iconst (-1), 1) := by decide +kernel
theorem dX5_look_126 : decode cX5_look 126 = .ok (.istore_n 3, 1) := by decide +kernel
theorem dX5_look_127 : decode cX5_look 127 = .ok (.iload_n 2, 1) := by decide +kernel
theorem dX5_look_128 : decode cX5_look 128 = .ok (.istore 4, 2) := by decide +kernel
theorem dX5_look_130 : decode cX5_look 130 = .ok (.bipush 63, 2) := by decide +kernel
theorem dX5_look_132 : decode cX5_look 132 = .ok (.istore 5, 2) := by decide +kernel
theorem dX5_look_134 : decode cX5_look 134 = .ok (.iload 5, 2) := by decide +kernel
theorem dX5_look_136 : decode cX5_look 136 = .ok (.ifCond .lt 67, 3) := by decide +kernel
theorem dX5_look_139 : decode cX5_look 139 = .ok (.aload_n 0, 1) := by decide +kernel
theorem dX5_look_140 : decode cX5_look 140 = .ok (.getfield 35, 3) := by decide +kernel
theorem dX5_look_143 : decode cX5_look 143 = .ok (.iload 5, 2) := by decide +kernel
theorem dX5_look_145 : decode cX5_look 145 = .ok (.iaload, 1) := by decide +kernel
theorem dX5_look_146 : decode cX5_look 146 = .ok (.iload_n 2, 1) := by decide +kernel
theorem dX5_look_147 : decode cX5_look 147 = .ok (.aload_n 0, 1) := by decide +kernel
theorem dX5_look_148 : decode cX5_look 148 = .ok (.getfield 35, 3) := by decide +kernel
theorem dX5_look_151 : decode cX5_look 151 = .ok (.iload 5, 2) := by decide +kernel
theorem dX5_look_153 : decode cX5_look 153 = .ok (.iaload, 1) := by decide +kernel
theorem dX5_look_154 : decode cX5_look 154 = .ok (.isub, 1) := by decide +kernel
theorem dX5_look_155 : decode cX5_look 155 = .ok (.if_icmp .le 13, 3) := by decide +kernel
theorem dX5_look_158 : decode cX5_look 158 = .ok (.aload_n 0, 1) := by decide +kernel
theorem dX5_look_159 : decode cX5_look 159 = .ok (.getfield 35, 3) := by decide +kernel
theorem dX5_look_162 : decode cX5_look 162 = .ok (.iload 5, 2) := by decide +kernel
theorem dX5_look_164 : decode cX5_look 164 = .ok (.iaload, 1) := by decide +kernel
theorem dX5_look_165 : decode cX5_look 165 = .ok (.goto 12, 3) := by decide +kernel
theorem dX5_look_168 : decode cX5_look 168 = .ok (.iload_n 2, 1) := by decide +kernel
theorem dX5_look_169 : decode cX5_look 169 = .ok (.aload_n 0, 1) := by decide +kernel
theorem dX5_look_170 : decode cX5_look 170 = .ok (.getfield 35, 3) := by decide +kernel
theorem dX5_look_173 : decode cX5_look 173 = .ok (.iload 5, 2) := by decide +kernel
theorem dX5_look_175 : decode cX5_look 175 = .ok (.iaload, 1) := by decide +kernel
theorem dX5_look_176 : decode cX5_look 176 = .ok (.isub, 1) := by decide +kernel
theorem dX5_look_177 : decode cX5_look 177 = .ok (.istore 6, 2) := by decide +kernel
theorem dX5_look_179 : decode cX5_look 179 = .ok (.iload 6, 2) := by decide +kernel
theorem dX5_look_181 : decode cX5_look 181 = .ok (.iload 4, 2) := by decide +kernel
theorem dX5_look_183 : decode cX5_look 183 = .ok (.if_icmp .gt 14, 3) := by decide +kernel
theorem dX5_look_186 : decode cX5_look 186 = .ok (.iload_n 2, 1) := by decide +kernel
theorem dX5_look_187 : decode cX5_look 187 = .ok (.ifCond .le 10, 3) := by decide +kernel
theorem dX5_look_190 : decode cX5_look 190 = .ok (.iload 5, 2) := by decide +kernel
theorem dX5_look_192 : decode cX5_look 192 = .ok (.istore_n 3, 1) := by decide +kernel
theorem dX5_look_193 : decode cX5_look 193 = .ok (.iload 6, 2) := by decide +kernel
theorem dX5_look_195 : decode cX5_look 195 = .ok (.istore 4, 2) := by decide +kernel
theorem dX5_look_197 : decode cX5_look 197 = .ok (.iinc 5 (-1), 3) := by decide +kernel
theorem dX5_look_200 : decode cX5_look 200 = .ok (.goto (-66), 3) := by decide +kernel
theorem dX5_look_203 : decode cX5_look 203 = .ok (.iload_n 3, 1) := by decide +kernel
theorem dX5_look_204 : decode cX5_look 204 = .ok (.ireturn, 1) := by decide +kernel
theorem dX5_bitten_0 : decode cX5_bitten 0 = .ok (.iload_n 1, 1) := by decide +kernel
theorem dX5_bitten_1 : decode cX5_bitten 1 = .ok (.invokestatic 62, 3) := by decide +kernel
theorem dX5_bitten_4 : decode cX5_bitten 4 = .ok (.ifCond .eq 32, 3) := by decide +kernel
theorem dX5_bitten_7 : decode cX5_bitten 7 = .ok (.iload_n 2, 1) := by decide +kernel
theorem dX5_bitten_8 : decode cX5_bitten 8 = .ok (.iload_n 3, 1) := by decide +kernel
theorem dX5_bitten_9 : decode cX5_bitten 9 = .ok (.invokestatic 66, 3) := by decide +kernel
theorem dX5_bitten_12 : decode cX5_bitten 12 = .ok (.ifCond .eq 24, 3) := by decide +kernel
theorem dX5_bitten_15 : decode cX5_bitten 15 = .ok (.iload 4, 2) := by decide +kernel
theorem dX5_bitten_17 : decode cX5_bitten 17 = .ok (.i2l, 1) := by decide +kernel
theorem dX5_bitten_18 : decode cX5_bitten 18 = .ok (.lconst 0, 1) := by decide +kernel
theorem dX5_bitten_19 : decode cX5_bitten 19 = .ok (.ldc2_w 70, 3) := by decide +kernel
theorem dX5_bitten_22 : decode cX5_bitten 22 = .ok (.invokestatic 54, 3) := by decide +kernel
theorem dX5_bitten_25 : decode cX5_bitten 25 = .ok (.ifCond .eq 11, 3) := by decide +kernel
theorem dX5_bitten_28 : decode cX5_bitten 28 = .ok (.iload 5, 2) := by decide +kernel
theorem dX5_bitten_30 : decode cX5_bitten 30 = .ok (.invokestatic 62, 3) := by decide +kernel
theorem dX5_bitten_33 : decode cX5_bitten 33 = .ok (.ifCond .ne 8, 3) := by decide +kernel
theorem dX5_bitten_36 : decode cX5_bitten 36 = .ok (.aload_n 0, 1) := by decide +kernel
theorem dX5_bitten_37 : decode cX5_bitten 37 = .ok (.invokevirtual 110, 3) := by decide +kernel
theorem dX5_bitten_40 : decode cX5_bitten 40 = .ok (.ireturn, 1) := by decide +kernel
theorem dX5_bitten_41 : decode cX5_bitten 41 = .ok (.aload_n 0, 1) := by decide +kernel
theorem dX5_bitten_42 : decode cX5_bitten 42 = .ok (.iload_n 1, 1) := by decide +kernel
theorem dX5_bitten_43 : decode cX5_bitten 43 = .ok (.iload 4, 2) := by decide +kernel
theorem dX5_bitten_45 : decode cX5_bitten 45 = .ok (.invokevirtual 90, 3) := by decide +kernel
theorem dX5_bitten_48 : decode cX5_bitten 48 = .ok (.istore 6, 2) := by decide +kernel
theorem dX5_bitten_50 : decode cX5_bitten 50 = .ok (.iconst 0, 1) := by decide +kernel
theorem dX5_bitten_51 : decode cX5_bitten 51 = .ok (.istore 7, 2) := by decide +kernel
theorem dX5_bitten_53 : decode cX5_bitten 53 = .ok (.iconst 1, 1) := by decide +kernel
theorem dX5_bitten_54 : decode cX5_bitten 54 = .ok (.istore 8, 2) := by decide +kernel
theorem dX5_bitten_56 : decode cX5_bitten 56 = .ok (.iconst 0, 1) := by decide +kernel
theorem dX5_bitten_57 : decode cX5_bitten 57 = .ok (.istore 9, 2) := by decide +kernel
theorem dX5_bitten_59 : decode cX5_bitten 59 = .ok (.iload 9, 2) := by decide +kernel
theorem dX5_bitten_61 : decode cX5_bitten 61 = .ok (.aload_n 0, 1) := by decide +kernel
theorem dX5_bitten_62 : decode cX5_bitten 62 = .ok (.getfield 7, 3) := by decide +kernel
theorem dX5_bitten_65 : decode cX5_bitten 65 = .ok (.bipush 76, 2) := by decide +kernel
theorem dX5_bitten_67 : decode cX5_bitten 67 = .ok (.iaload, 1) := by decide +kernel
theorem dX5_bitten_68 : decode cX5_bitten 68 = .ok (.if_icmp .ge 99, 3) := by decide +kernel
theorem dX5_bitten_71 : decode cX5_bitten 71 = .ok (.aload_n 0, 1) := by decide +kernel
theorem dX5_bitten_72 : decode cX5_bitten 72 = .ok (.getfield 7, 3) := by decide +kernel
theorem dX5_bitten_75 : decode cX5_bitten 75 = .ok (.bipush 77, 2) := by decide +kernel
theorem dX5_bitten_77 : decode cX5_bitten 77 = .ok (.iload 9, 2) := by decide +kernel
theorem dX5_bitten_79 : decode cX5_bitten 79 = .ok (.iadd, 1) := by decide +kernel
theorem dX5_bitten_80 : decode cX5_bitten 80 = .ok (.iaload, 1) := by decide +kernel
theorem dX5_bitten_81 : decode cX5_bitten 81 = .ok (.iconst 2, 1) := by decide +kernel
theorem dX5_bitten_82 : decode cX5_bitten 82 = .ok (.idiv, 1) := by decide +kernel
theorem dX5_bitten_83 : decode cX5_bitten 83 = .ok (.istore 10, 2) := by decide +kernel
theorem dX5_bitten_85 : decode cX5_bitten 85 = .ok (.iload 6, 2) := by decide +kernel
theorem dX5_bitten_87 : decode cX5_bitten 87 = .ok (.iload_n 2, 1) := by decide +kernel
theorem dX5_bitten_88 : decode cX5_bitten 88 = .ok (.iload_n 3, 1) := by decide +kernel
theorem dX5_bitten_89 : decode cX5_bitten 89 = .ok (.iload 10, 2) := by decide +kernel
theorem dX5_bitten_91 : decode cX5_bitten 91 = .ok (.invokestatic 200, 3) := by decide +kernel
theorem dX5_bitten_94 : decode cX5_bitten 94 = .ok (.istore 11, 2) := by decide +kernel
theorem dX5_bitten_96 : decode cX5_bitten 96 = .ok (.aload_n 0, 1) := by decide +kernel
theorem dX5_bitten_97 : decode cX5_bitten 97 = .ok (.getfield 7, 3) := by decide +kernel
theorem dX5_bitten_100 : decode cX5_bitten 100 = .ok (.bipush 77, 2) := by decide +kernel
theorem dX5_bitten_102 : decode cX5_bitten 102 = .ok (.iload 9, 2) := by decide +kernel
theorem dX5_bitten_104 : decode cX5_bitten 104 = .ok (.iadd, 1) := by decide +kernel
theorem dX5_bitten_105 : decode cX5_bitten 105 = .ok (.iaload, 1) := by decide +kernel
theorem dX5_bitten_106 : decode cX5_bitten 106 = .ok (.iconst 2, 1) := by decide +kernel
theorem dX5_bitten_107 : decode cX5_bitten 107 = .ok (.irem, 1) := by decide +kernel
theorem dX5_bitten_108 : decode cX5_bitten 108 = .ok (.iconst 1, 1) := by decide +kernel
theorem dX5_bitten_109 : decode cX5_bitten 109 = .ok (.if_icmp .ne 23, 3) := by decide +kernel
theorem dX5_bitten_112 : decode cX5_bitten 112 = .ok (.iload 8, 2) := by decide +kernel
theorem dX5_bitten_114 : decode cX5_bitten 114 = .ok (.ifCond .eq 12, 3) := by decide +kernel
theorem dX5_bitten_117 : decode cX5_bitten 117 = .ok (.iload 11, 2) := by decide +kernel
theorem dX5_bitten_119 : decode cX5_bitten 119 = .ok (.ifCond .eq 7, 3) := by decide +kernel
theorem dX5_bitten_122 : decode cX5_bitten 122 = .ok (.iconst 1, 1) := by decide +kernel
theorem dX5_bitten_123 : decode cX5_bitten 123 = .ok (.goto 4, 3) := by decide +kernel
theorem dX5_bitten_126 : decode cX5_bitten 126 = .ok (.iconst 0, 1) := by decide +kernel
theorem dX5_bitten_127 : decode cX5_bitten 127 = .ok (.istore 8, 2) := by decide +kernel
theorem dX5_bitten_129 : decode cX5_bitten 129 = .ok (.goto 32, 3) := by decide +kernel
theorem dX5_bitten_132 : decode cX5_bitten 132 = .ok (.iload 11, 2) := by decide +kernel
theorem dX5_bitten_134 : decode cX5_bitten 134 = .ok (.ifCond .eq 27, 3) := by decide +kernel
theorem dX5_bitten_137 : decode cX5_bitten 137 = .ok (.iload 7, 2) := by decide +kernel
theorem dX5_bitten_139 : decode cX5_bitten 139 = .ok (.iconst 1, 1) := by decide +kernel
theorem dX5_bitten_140 : decode cX5_bitten 140 = .ok (.iconst 4, 1) := by decide +kernel
theorem dX5_bitten_141 : decode cX5_bitten 141 = .ok (.iload 10, 2) := by decide +kernel
theorem dX5_bitten_143 : decode cX5_bitten 143 = .ok (.bipush 8, 2) := by decide +kernel
theorem dX5_bitten_145 : decode cX5_bitten 145 = .ok (.idiv, 1) := by decide +kernel
theorem dX5_bitten_146 : decode cX5_bitten 146 = .ok (.iload_n 3, 1) := by decide +kernel
theorem dX5_bitten_147 : decode cX5_bitten 147 = .ok (.isub, 1) := by decide +kernel
theorem dX5_bitten_148 : decode cX5_bitten 148 = .ok (.imul, 1) := by decide +kernel
theorem dX5_bitten_149 : decode cX5_bitten 149 = .ok (.iload 10, 2) := by decide +kernel
theorem dX5_bitten_151 : decode cX5_bitten 151 = .ok (.bipush 8, 2) := by decide +kernel
theorem dX5_bitten_153 : decode cX5_bitten 153 = .ok (.irem, 1) := by decide +kernel
theorem dX5_bitten_154 : decode cX5_bitten 154 = .ok (.iadd, 1) := by decide +kernel
theorem dX5_bitten_155 : decode cX5_bitten 155 = .ok (.iload_n 2, 1) := by decide +kernel
theorem dX5_bitten_156 : decode cX5_bitten 156 = .ok (.isub, 1) := by decide +kernel
theorem dX5_bitten_157 : decode cX5_bitten 157 = .ok (.ishl, 1) := by decide +kernel
theorem dX5_bitten_158 : decode cX5_bitten 158 = .ok (.ior, 1) := by decide +kernel
theorem dX5_bitten_159 : decode cX5_bitten 159 = .ok (.istore 7, 2) := by decide +kernel
theorem dX5_bitten_161 : decode cX5_bitten 161 = .ok (.iinc 9 1, 3) := by decide +kernel
theorem dX5_bitten_164 : decode cX5_bitten 164 = .ok (.goto (-105), 3) := by decide +kernel
theorem dX5_bitten_167 : decode cX5_bitten 167 = .ok (.iload 5, 2) := by decide +kernel
theorem dX5_bitten_169 : decode cX5_bitten 169 = .ok (.iconst 1, 1) := by decide +kernel
theorem dX5_bitten_170 : decode cX5_bitten 170 = .ok (.if_icmp .ne 14, 3) := by decide +kernel
theorem dX5_bitten_173 : decode cX5_bitten 173 = .ok (.iload 8, 2) := by decide +kernel
theorem dX5_bitten_175 : decode cX5_bitten 175 = .ok (.ifCond .eq 7, 3) := by decide +kernel
theorem dX5_bitten_178 : decode cX5_bitten 178 = .ok (.iconst 1, 1) := by decide +kernel
theorem dX5_bitten_179 : decode cX5_bitten 179 = .ok (.goto 4, 3) := by decide +kernel
theorem dX5_bitten_182 : decode cX5_bitten 182 = .ok (.iconst 0, 1) := by decide +kernel
theorem dX5_bitten_183 : decode cX5_bitten 183 = .ok (.ireturn, 1) := by decide +kernel
theorem dX5_bitten_184 : decode cX5_bitten 184 = .ok (.iconst 0, 1) := by decide +kernel
theorem dX5_bitten_185 : decode cX5_bitten 185 = .ok (.istore 9, 2) := by decide +kernel
theorem dX5_bitten_187 : decode cX5_bitten 187 = .ok (.iconst 0, 1) := by decide +kernel
theorem dX5_bitten_188 : decode cX5_bitten 188 = .ok (.istore 10, 2) := by decide +kernel
theorem dX5_bitten_190 : decode cX5_bitten 190 = .ok (.iload 10, 2) := by decide +kernel
theorem dX5_bitten_192 : decode cX5_bitten 192 = .ok (.bipush 16, 2) := by decide +kernel
theorem dX5_bitten_194 : decode cX5_bitten 194 = .ok (.if_icmp .ge 37, 3) := by decide +kernel
theorem dX5_bitten_197 : decode cX5_bitten 197 = .ok (.iload 9, 2) := by decide +kernel
theorem dX5_bitten_199 : decode cX5_bitten 199 = .ok (.iload 7, 2) := by decide +kernel
theorem dX5_bitten_201 : decode cX5_bitten 201 = .ok (.iload 10, 2) := by decide +kernel
theorem dX5_bitten_203 : decode cX5_bitten 203 = .ok (.iload 4, 2) := by decide +kernel
theorem dX5_bitten_205 : decode cX5_bitten 205 = .ok (.invokestatic 75, 3) := by decide +kernel
theorem dX5_bitten_208 : decode cX5_bitten 208 = .ok (.invokestatic 72, 3) := by decide +kernel
theorem dX5_bitten_211 : decode cX5_bitten 211 = .ok (.ifCond .eq 10, 3) := by decide +kernel
theorem dX5_bitten_214 : decode cX5_bitten 214 = .ok (.iconst 1, 1) := by decide +kernel
theorem dX5_bitten_215 : decode cX5_bitten 215 = .ok (.iload 10, 2) := by decide +kernel
theorem dX5_bitten_217 : decode cX5_bitten 217 = .ok (.ishl, 1) := by decide +kernel
theorem dX5_bitten_218 : decode cX5_bitten 218 = .ok (.goto 4, 3) := by decide +kernel
theorem dX5_bitten_221 : decode cX5_bitten 221 = .ok (.iconst 0, 1) := by decide +kernel
theorem dX5_bitten_222 : decode cX5_bitten 222 = .ok (.ior, 1) := by decide +kernel
theorem dX5_bitten_223 : decode cX5_bitten 223 = .ok (.istore 9, 2) := by decide +kernel
theorem dX5_bitten_225 : decode cX5_bitten 225 = .ok (.iinc 10 1, 3) := by decide +kernel
theorem dX5_bitten_228 : decode cX5_bitten 228 = .ok (.goto (-38), 3) := by decide +kernel
theorem dX5_bitten_231 : decode cX5_bitten 231 = .ok (.iload 9, 2) := by decide +kernel
theorem dX5_bitten_233 : decode cX5_bitten 233 = .ok (.ireturn, 1) := by decide +kernel
theorem dX5_setFraction_0 : decode cX5_setFraction 0 = .ok (.lload_n 1, 1) := by decide +kernel
theorem dX5_setFraction_1 : decode cX5_setFraction 1 = .ok (.lstore 5, 2) := by decide +kernel
theorem dX5_setFraction_3 : decode cX5_setFraction 3 = .ok (.lload_n 3, 1) := by decide +kernel
theorem dX5_setFraction_4 : decode cX5_setFraction 4 = .ok (.lstore 7, 2) := by decide +kernel
theorem dX5_setFraction_6 : decode cX5_setFraction 6 = .ok (.lload 7, 2) := by decide +kernel
theorem dX5_setFraction_8 : decode cX5_setFraction 8 = .ok (.lconst 0, 1) := by decide +kernel
theorem dX5_setFraction_9 : decode cX5_setFraction 9 = .ok (.lcmp, 1) := by decide +kernel
theorem dX5_setFraction_10 : decode cX5_setFraction 10 = .ok (.ifCond .eq 21, 3) := by decide +kernel
theorem dX5_setFraction_13 : decode cX5_setFraction 13 = .ok (.lload 5, 2) := by decide +kernel
theorem dX5_setFraction_15 : decode cX5_setFraction 15 = .ok (.lload 7, 2) := by decide +kernel
theorem dX5_setFraction_17 : decode cX5_setFraction 17 = .ok (.lrem, 1) := by decide +kernel
theorem dX5_setFraction_18 : decode cX5_setFraction 18 = .ok (.lstore 9, 2) := by decide +kernel
theorem dX5_setFraction_20 : decode cX5_setFraction 20 = .ok (.lload 7, 2) := by decide +kernel
theorem dX5_setFraction_22 : decode cX5_setFraction 22 = .ok (.lstore 5, 2) := by decide +kernel
theorem dX5_setFraction_24 : decode cX5_setFraction 24 = .ok (.lload 9, 2) := by decide +kernel
theorem dX5_setFraction_26 : decode cX5_setFraction 26 = .ok (.lstore 7, 2) := by decide +kernel
theorem dX5_setFraction_28 : decode cX5_setFraction 28 = .ok (.goto (-22), 3) := by decide +kernel
theorem dX5_setFraction_31 : decode cX5_setFraction 31 = .ok (.aload_n 0, 1) := by decide +kernel
theorem dX5_setFraction_32 : decode cX5_setFraction 32 = .ok (.lload_n 1, 1) := by decide +kernel
theorem dX5_setFraction_33 : decode cX5_setFraction 33 = .ok (.lload 5, 2) := by decide +kernel
theorem dX5_setFraction_35 : decode cX5_setFraction 35 = .ok (.ldiv, 1) := by decide +kernel
theorem dX5_setFraction_36 : decode cX5_setFraction 36 = .ok (.putfield 219, 3) := by decide +kernel
theorem dX5_setFraction_39 : decode cX5_setFraction 39 = .ok (.aload_n 0, 1) := by decide +kernel
theorem dX5_setFraction_40 : decode cX5_setFraction 40 = .ok (.lload_n 3, 1) := by decide +kernel
theorem dX5_setFraction_41 : decode cX5_setFraction 41 = .ok (.lload 5, 2) := by decide +kernel
theorem dX5_setFraction_43 : decode cX5_setFraction 43 = .ok (.ldiv, 1) := by decide +kernel
theorem dX5_setFraction_44 : decode cX5_setFraction 44 = .ok (.putfield 13, 3) := by decide +kernel
theorem dX5_setFraction_47 : decode cX5_setFraction 47 = .ok (.return_, 1) := by decide +kernel
theorem dX5_slips_0 : decode cX5_slips 0 = .ok (.iload_n 1, 1) := by decide +kernel
theorem dX5_slips_1 : decode cX5_slips 1 = .ok (.iload_n 2, 1) := by decide +kernel
theorem dX5_slips_2 : decode cX5_slips 2 = .ok (.iload_n 3, 1) := by decide +kernel
theorem dX5_slips_3 : decode cX5_slips 3 = .ok (.iload 4, 2) := by decide +kernel
theorem dX5_slips_5 : decode cX5_slips 5 = .ok (.iconst 0, 1) := by decide +kernel
theorem dX5_slips_6 : decode cX5_slips 6 = .ok (.invokestatic 125, 3) := by decide +kernel
theorem dX5_slips_9 : decode cX5_slips 9 = .ok (.ifCond .eq 42, 3) := by decide +kernel
theorem dX5_slips_12 : decode cX5_slips 12 = .ok (.iload 5, 2) := by decide +kernel
theorem dX5_slips_14 : decode cX5_slips 14 = .ok (.i2l, 1) := by decide +kernel
theorem dX5_slips_15 : decode cX5_slips 15 = .ok (.lconst 0, 1) := by decide +kernel
theorem dX5_slips_16 : decode cX5_slips 16 = .ok (.ldc2_w 60, 3) := by decide +kernel
theorem dX5_slips_19 : decode cX5_slips 19 = .ok (.invokestatic 54, 3) := by decide +kernel
theorem dX5_slips_22 : decode cX5_slips 22 = .ok (.ifCond .eq 29, 3) := by decide +kernel
theorem dX5_slips_25 : decode cX5_slips 25 = .ok (.iload 6, 2) := by decide +kernel
theorem dX5_slips_27 : decode cX5_slips 27 = .ok (.i2l, 1) := by decide +kernel
theorem dX5_slips_28 : decode cX5_slips 28 = .ok (.lconst 0, 1) := by decide +kernel
theorem dX5_slips_29 : decode cX5_slips 29 = .ok (.ldc2_w 222, 3) := by decide +kernel
theorem dX5_slips_32 : decode cX5_slips 32 = .ok (.invokestatic 54, 3) := by decide +kernel
theorem dX5_slips_35 : decode cX5_slips 35 = .ok (.ifCond .eq 16, 3) := by decide +kernel
theorem dX5_slips_38 : decode cX5_slips 38 = .ok (.iload 7, 2) := by decide +kernel
theorem dX5_slips_40 : decode cX5_slips 40 = .ok (.i2l, 1) := by decide +kernel
theorem dX5_slips_41 : decode cX5_slips 41 = .ok (.lconst 0, 1) := by decide +kernel
theorem dX5_slips_42 : decode cX5_slips 42 = .ok (.ldc2_w 224, 3) := by decide +kernel
theorem dX5_slips_45 : decode cX5_slips 45 = .ok (.invokestatic 54, 3) := by decide +kernel
theorem dX5_slips_48 : decode cX5_slips 48 = .ok (.ifCond .ne 8, 3) := by decide +kernel
theorem dX5_slips_51 : decode cX5_slips 51 = .ok (.aload_n 0, 1) := by decide +kernel
theorem dX5_slips_52 : decode cX5_slips 52 = .ok (.invokevirtual 110, 3) := by decide +kernel
theorem dX5_slips_55 : decode cX5_slips 55 = .ok (.ireturn, 1) := by decide +kernel
theorem dX5_slips_56 : decode cX5_slips 56 = .ok (.aload_n 0, 1) := by decide +kernel
theorem dX5_slips_57 : decode cX5_slips 57 = .ok (.iload_n 2, 1) := by decide +kernel
theorem dX5_slips_58 : decode cX5_slips 58 = .ok (.iconst 0, 1) := by decide +kernel
theorem dX5_slips_59 : decode cX5_slips 59 = .ok (.invokevirtual 90, 3) := by decide +kernel
theorem dX5_slips_62 : decode cX5_slips 62 = .ok (.istore 8, 2) := by decide +kernel
theorem dX5_slips_64 : decode cX5_slips 64 = .ok (.lconst 1, 1) := by decide +kernel
theorem dX5_slips_65 : decode cX5_slips 65 = .ok (.lstore 9, 2) := by decide +kernel
theorem dX5_slips_67 : decode cX5_slips 67 = .ok (.lconst 1, 1) := by decide +kernel
theorem dX5_slips_68 : decode cX5_slips 68 = .ok (.lstore 11, 2) := by decide +kernel
theorem dX5_slips_70 : decode cX5_slips 70 = .ok (.aload_n 0, 1) := by decide +kernel
theorem dX5_slips_71 : decode cX5_slips 71 = .ok (.getfield 7, 3) := by decide +kernel
theorem dX5_slips_74 : decode cX5_slips 74 = .ok (.bipush 64, 2) := by decide +kernel
theorem dX5_slips_76 : decode cX5_slips 76 = .ok (.iaload, 1) := by decide +kernel
theorem dX5_slips_77 : decode cX5_slips 77 = .ok (.istore 13, 2) := by decide +kernel
theorem dX5_slips_79 : decode cX5_slips 79 = .ok (.iconst 0, 1) := by decide +kernel
theorem dX5_slips_80 : decode cX5_slips 80 = .ok (.istore 14, 2) := by decide +kernel
theorem dX5_slips_82 : decode cX5_slips 82 = .ok (.iload 14, 2) := by decide +kernel
theorem dX5_slips_84 : decode cX5_slips 84 = .ok (.iload 5, 2) := by decide +kernel
theorem dX5_slips_86 : decode cX5_slips 86 = .ok (.if_icmp .ge 106, 3) := by decide +kernel
theorem dX5_slips_89 : decode cX5_slips 89 = .ok (.aload_n 0, 1) := by decide +kernel
theorem dX5_slips_90 : decode cX5_slips 90 = .ok (.iload_n 1, 1) := by decide +kernel
theorem dX5_slips_91 : decode cX5_slips 91 = .ok (.iload 8, 2) := by decide +kernel
theorem dX5_slips_93 : decode cX5_slips 93 = .ok (.iload_n 3, 1) := by decide +kernel
theorem dX5_slips_94 : decode cX5_slips 94 = .ok (.iload 4, 2) := by decide +kernel
theorem dX5_slips_96 : decode cX5_slips 96 = .ok (.iload 13, 2) := by decide +kernel
theorem dX5_slips_98 : decode cX5_slips 98 = .ok (.invokevirtual 93, 3) := by decide +kernel
theorem dX5_slips_101 : decode cX5_slips 101 = .ok (.aload_n 0, 1) := by decide +kernel
theorem dX5_slips_102 : decode cX5_slips 102 = .ok (.getfield 20, 3) := by decide +kernel
theorem dX5_slips_105 : decode cX5_slips 105 = .ok (.iload 7, 2) := by decide +kernel
theorem dX5_slips_107 : decode cX5_slips 107 = .ok (.iaload, 1) := by decide +kernel
theorem dX5_slips_108 : decode cX5_slips 108 = .ok (.ifCond .le 7, 3) := by decide +kernel
theorem dX5_slips_111 : decode cX5_slips 111 = .ok (.lconst 0, 1) := by decide +kernel
theorem dX5_slips_112 : decode cX5_slips 112 = .ok (.goto 10, 3) := by decide +kernel
theorem dX5_slips_115 : decode cX5_slips 115 = .ok (.ldc2_w 222, 3) := by decide +kernel
theorem dX5_slips_118 : decode cX5_slips 118 = .ok (.iload 6, 2) := by decide +kernel
theorem dX5_slips_120 : decode cX5_slips 120 = .ok (.i2l, 1) := by decide +kernel
theorem dX5_slips_121 : decode cX5_slips 121 = .ok (.lsub, 1) := by decide +kernel
theorem dX5_slips_122 : decode cX5_slips 122 = .ok (.lstore 15, 2) := by decide +kernel
theorem dX5_slips_124 : decode cX5_slips 124 = .ok (.aload_n 0, 1) := by decide +kernel
theorem dX5_slips_125 : decode cX5_slips 125 = .ok (.iload_n 1, 1) := by decide +kernel
theorem dX5_slips_126 : decode cX5_slips 126 = .ok (.iload 8, 2) := by decide +kernel
theorem dX5_slips_128 : decode cX5_slips 128 = .ok (.iload_n 3, 1) := by decide +kernel
theorem dX5_slips_129 : decode cX5_slips 129 = .ok (.iconst 1, 1) := by decide +kernel
theorem dX5_slips_130 : decode cX5_slips 130 = .ok (.iadd, 1) := by decide +kernel
theorem dX5_slips_131 : decode cX5_slips 131 = .ok (.iload 4, 2) := by decide +kernel
theorem dX5_slips_133 : decode cX5_slips 133 = .ok (.iload 13, 2) := by decide +kernel
theorem dX5_slips_135 : decode cX5_slips 135 = .ok (.invokevirtual 93, 3) := by decide +kernel
theorem dX5_slips_138 : decode cX5_slips 138 = .ok (.lload 15, 2) := by decide +kernel
theorem dX5_slips_140 : decode cX5_slips 140 = .ok (.aload_n 0, 1) := by decide +kernel
theorem dX5_slips_141 : decode cX5_slips 141 = .ok (.getfield 20, 3) := by decide +kernel
theorem dX5_slips_144 : decode cX5_slips 144 = .ok (.iload 7, 2) := by decide +kernel
theorem dX5_slips_146 : decode cX5_slips 146 = .ok (.iaload, 1) := by decide +kernel
theorem dX5_slips_147 : decode cX5_slips 147 = .ok (.ifCond .le 7, 3) := by decide +kernel
theorem dX5_slips_150 : decode cX5_slips 150 = .ok (.lconst 0, 1) := by decide +kernel
theorem dX5_slips_151 : decode cX5_slips 151 = .ok (.goto 6, 3) := by decide +kernel
theorem dX5_slips_154 : decode cX5_slips 154 = .ok (.iload 6, 2) := by decide +kernel
theorem dX5_slips_156 : decode cX5_slips 156 = .ok (.i2l, 1) := by decide +kernel
theorem dX5_slips_157 : decode cX5_slips 157 = .ok (.ladd, 1) := by decide +kernel
theorem dX5_slips_158 : decode cX5_slips 158 = .ok (.lstore 15, 2) := by decide +kernel
theorem dX5_slips_160 : decode cX5_slips 160 = .ok (.lload 9, 2) := by decide +kernel
theorem dX5_slips_162 : decode cX5_slips 162 = .ok (.lload 15, 2) := by decide +kernel
theorem dX5_slips_164 : decode cX5_slips 164 = .ok (.lmul, 1) := by decide +kernel
theorem dX5_slips_165 : decode cX5_slips 165 = .ok (.lstore 9, 2) := by decide +kernel
theorem dX5_slips_167 : decode cX5_slips 167 = .ok (.lload 11, 2) := by decide +kernel
theorem dX5_slips_169 : decode cX5_slips 169 = .ok (.ldc2_w 222, 3) := by decide +kernel
theorem dX5_slips_172 : decode cX5_slips 172 = .ok (.lmul, 1) := by decide +kernel
theorem dX5_slips_173 : decode cX5_slips 173 = .ok (.lstore 11, 2) := by decide +kernel
theorem dX5_slips_175 : decode cX5_slips 175 = .ok (.iload 13, 2) := by decide +kernel
theorem dX5_slips_177 : decode cX5_slips 177 = .ok (.iload_n 1, 1) := by decide +kernel
theorem dX5_slips_178 : decode cX5_slips 178 = .ok (.iload 13, 2) := by decide +kernel
theorem dX5_slips_180 : decode cX5_slips 180 = .ok (.invokestatic 101, 3) := by decide +kernel
theorem dX5_slips_183 : decode cX5_slips 183 = .ok (.isub, 1) := by decide +kernel
theorem dX5_slips_184 : decode cX5_slips 184 = .ok (.istore 13, 2) := by decide +kernel
theorem dX5_slips_186 : decode cX5_slips 186 = .ok (.iinc 14 1, 3) := by decide +kernel
theorem dX5_slips_189 : decode cX5_slips 189 = .ok (.goto (-107), 3) := by decide +kernel
theorem dX5_slips_192 : decode cX5_slips 192 = .ok (.aload_n 0, 1) := by decide +kernel
theorem dX5_slips_193 : decode cX5_slips 193 = .ok (.lload 11, 2) := by decide +kernel
theorem dX5_slips_195 : decode cX5_slips 195 = .ok (.lload 9, 2) := by decide +kernel
theorem dX5_slips_197 : decode cX5_slips 197 = .ok (.lsub, 1) := by decide +kernel
theorem dX5_slips_198 : decode cX5_slips 198 = .ok (.lload 11, 2) := by decide +kernel
theorem dX5_slips_200 : decode cX5_slips 200 = .ok (.invokevirtual 226, 3) := by decide +kernel
theorem dX5_slips_203 : decode cX5_slips 203 = .ok (.iconst 1, 1) := by decide +kernel
theorem dX5_slips_204 : decode cX5_slips 204 = .ok (.ireturn, 1) := by decide +kernel
theorem dX5_draw_0 : decode cX5_draw 0 = .ok (.aload_n 0, 1) := by decide +kernel
theorem dX5_draw_1 : decode cX5_draw 1 = .ok (.aload_n 0, 1) := by decide +kernel
theorem dX5_draw_2 : decode cX5_draw 2 = .ok (.getfield 230, 3) := by decide +kernel
theorem dX5_draw_5 : decode cX5_draw 5 = .ok (.ldc2_w 233, 3) := by decide +kernel
theorem dX5_draw_8 : decode cX5_draw 8 = .ok (.lmul, 1) := by decide +kernel
theorem dX5_draw_9 : decode cX5_draw 9 = .ok (.ldc2_w 235, 3) := by decide +kernel
theorem dX5_draw_12 : decode cX5_draw 12 = .ok (.ladd, 1) := by decide +kernel
theorem dX5_draw_13 : decode cX5_draw 13 = .ok (.ldc2_w 237, 3) := by decide +kernel
theorem dX5_draw_16 : decode cX5_draw 16 = .ok (.lrem, 1) := by decide +kernel
theorem dX5_draw_17 : decode cX5_draw 17 = .ok (.putfield 230, 3) := by decide +kernel
theorem dX5_draw_20 : decode cX5_draw 20 = .ok (.aload_n 0, 1) := by decide +kernel
theorem dX5_draw_21 : decode cX5_draw 21 = .ok (.getfield 230, 3) := by decide +kernel
theorem dX5_draw_24 : decode cX5_draw 24 = .ok (.ldc2_w 239, 3) := by decide +kernel
theorem dX5_draw_27 : decode cX5_draw 27 = .ok (.ldiv, 1) := by decide +kernel
theorem dX5_draw_28 : decode cX5_draw 28 = .ok (.iload_n 1, 1) := by decide +kernel
theorem dX5_draw_29 : decode cX5_draw 29 = .ok (.i2l, 1) := by decide +kernel
theorem dX5_draw_30 : decode cX5_draw 30 = .ok (.lrem, 1) := by decide +kernel
theorem dX5_draw_31 : decode cX5_draw 31 = .ok (.l2i, 1) := by decide +kernel
theorem dX5_draw_32 : decode cX5_draw 32 = .ok (.ireturn, 1) := by decide +kernel
theorem dX5_sheets_0 : decode cX5_sheets 0 = .ok (.iload_n 1, 1) := by decide +kernel
theorem dX5_sheets_1 : decode cX5_sheets 1 = .ok (.i2l, 1) := by decide +kernel
theorem dX5_sheets_2 : decode cX5_sheets 2 = .ok (.lconst 0, 1) := by decide +kernel
theorem dX5_sheets_3 : decode cX5_sheets 3 = .ok (.ldc2_w 241, 3) := by decide +kernel
theorem dX5_sheets_6 : decode cX5_sheets 6 = .ok (.invokestatic 54, 3) := by decide +kernel
theorem dX5_sheets_9 : decode cX5_sheets 9 = .ok (.ifCond .eq 15, 3) := by decide +kernel
theorem dX5_sheets_12 : decode cX5_sheets 12 = .ok (.iload_n 2, 1) := by decide +kernel
theorem dX5_sheets_13 : decode cX5_sheets 13 = .ok (.i2l, 1) := by decide +kernel
theorem dX5_sheets_14 : decode cX5_sheets 14 = .ok (.lconst 0, 1) := by decide +kernel
theorem dX5_sheets_15 : decode cX5_sheets 15 = .ok (.ldc2_w 243, 3) := by decide +kernel
theorem dX5_sheets_18 : decode cX5_sheets 18 = .ok (.invokestatic 54, 3) := by decide +kernel
theorem dX5_sheets_21 : decode cX5_sheets 21 = .ok (.ifCond .ne 8, 3) := by decide +kernel
theorem dX5_sheets_24 : decode cX5_sheets 24 = .ok (.aload_n 0, 1) := by decide +kernel
theorem dX5_sheets_25 : decode cX5_sheets 25 = .ok (.invokevirtual 110, 3) := by decide +kernel
theorem dX5_sheets_28 : decode cX5_sheets 28 = .ok (.ireturn, 1) := by decide +kernel
theorem dX5_sheets_29 : decode cX5_sheets 29 = .ok (.iconst 0, 1) := by decide +kernel
theorem dX5_sheets_30 : decode cX5_sheets 30 = .ok (.istore_n 3, 1) := by decide +kernel
theorem dX5_sheets_31 : decode cX5_sheets 31 = .ok (.iload_n 3, 1) := by decide +kernel
theorem dX5_sheets_32 : decode cX5_sheets 32 = .ok (.bipush 99, 2) := by decide +kernel
theorem dX5_sheets_34 : decode cX5_sheets 34 = .ok (.if_icmp .ge 21, 3) := by decide +kernel
theorem dX5_sheets_37 : decode cX5_sheets 37 = .ok (.aload_n 0, 1) := by decide +kernel
theorem dX5_sheets_38 : decode cX5_sheets 38 = .ok (.getfield 38, 3) := by decide +kernel
theorem dX5_sheets_41 : decode cX5_sheets 41 = .ok (.iload_n 3, 1) := by decide +kernel
theorem dX5_sheets_42 : decode cX5_sheets 42 = .ok (.aload_n 0, 1) := by decide +kernel
theorem dX5_sheets_43 : decode cX5_sheets 43 = .ok (.getfield 7, 3) := by decide +kernel
theorem dX5_sheets_46 : decode cX5_sheets 46 = .ok (.iload_n 3, 1) := by decide +kernel
theorem dX5_sheets_47 : decode cX5_sheets 47 = .ok (.iaload, 1) := by decide +kernel
theorem dX5_sheets_48 : decode cX5_sheets 48 = .ok (.iastore, 1) := by decide +kernel
theorem dX5_sheets_49 : decode cX5_sheets 49 = .ok (.iinc 3 1, 3) := by decide +kernel
theorem dX5_sheets_52 : decode cX5_sheets 52 = .ok (.goto (-21), 3) := by decide +kernel
theorem dX5_sheets_55 : decode cX5_sheets 55 = .ok (.aload_n 0, 1) := by decide +kernel
theorem dX5_sheets_56 : decode cX5_sheets 56 = .ok (.iload_n 1, 1) := by decide +kernel
theorem dX5_sheets_57 : decode cX5_sheets 57 = .ok (.i2l, 1) := by decide +kernel
theorem dX5_sheets_58 : decode cX5_sheets 58 = .ok (.putfield 230, 3) := by decide +kernel
theorem dX5_sheets_61 : decode cX5_sheets 61 = .ok (.iconst 0, 1) := by decide +kernel
theorem dX5_sheets_62 : decode cX5_sheets 62 = .ok (.istore_n 3, 1) := by decide +kernel
theorem dX5_sheets_63 : decode cX5_sheets 63 = .ok (.iload_n 3, 1) := by decide +kernel
theorem dX5_sheets_64 : decode cX5_sheets 64 = .ok (.iload_n 2, 1) := by decide +kernel
theorem dX5_sheets_65 : decode cX5_sheets 65 = .ok (.if_icmp .ge 89, 3) := by decide +kernel
theorem dX5_sheets_68 : decode cX5_sheets 68 = .ok (.aload_n 0, 1) := by decide +kernel
theorem dX5_sheets_69 : decode cX5_sheets 69 = .ok (.bipush 6, 2) := by decide +kernel
theorem dX5_sheets_71 : decode cX5_sheets 71 = .ok (.invokevirtual 245, 3) := by decide +kernel
theorem dX5_sheets_74 : decode cX5_sheets 74 = .ok (.istore 4, 2) := by decide +kernel
theorem dX5_sheets_76 : decode cX5_sheets 76 = .ok (.aload_n 0, 1) := by decide +kernel
theorem dX5_sheets_77 : decode cX5_sheets 77 = .ok (.iconst 2, 1) := by decide +kernel
theorem dX5_sheets_78 : decode cX5_sheets 78 = .ok (.invokevirtual 245, 3) := by decide +kernel
theorem dX5_sheets_81 : decode cX5_sheets 81 = .ok (.istore 5, 2) := by decide +kernel
theorem dX5_sheets_83 : decode cX5_sheets 83 = .ok (.aload_n 0, 1) := by decide +kernel
theorem dX5_sheets_84 : decode cX5_sheets 84 = .ok (.bipush 64, 2) := by decide +kernel
theorem dX5_sheets_86 : decode cX5_sheets 86 = .ok (.invokevirtual 245, 3) := by decide +kernel
theorem dX5_sheets_89 : decode cX5_sheets 89 = .ok (.istore 6, 2) := by decide +kernel
theorem dX5_sheets_91 : decode cX5_sheets 91 = .ok (.aload_n 0, 1) := by decide +kernel
theorem dX5_sheets_92 : decode cX5_sheets 92 = .ok (.iconst 4, 1) := by decide +kernel
theorem dX5_sheets_93 : decode cX5_sheets 93 = .ok (.invokevirtual 245, 3) := by decide +kernel
theorem dX5_sheets_96 : decode cX5_sheets 96 = .ok (.istore 7, 2) := by decide +kernel
theorem dX5_sheets_98 : decode cX5_sheets 98 = .ok (.aload_n 0, 1) := by decide +kernel
theorem dX5_sheets_99 : decode cX5_sheets 99 = .ok (.getfield 7, 3) := by decide +kernel
theorem dX5_sheets_102 : decode cX5_sheets 102 = .ok (.bipush 64, 2) := by decide +kernel
theorem dX5_sheets_104 : decode cX5_sheets 104 = .ok (.aload_n 0, 1) := by decide +kernel
theorem dX5_sheets_105 : decode cX5_sheets 105 = .ok (.getfield 7, 3) := by decide +kernel
theorem dX5_sheets_108 : decode cX5_sheets 108 = .ok (.bipush 64, 2) := by decide +kernel
theorem dX5_sheets_110 : decode cX5_sheets 110 = .ok (.iaload, 1) := by decide +kernel
theorem dX5_sheets_111 : decode cX5_sheets 111 = .ok (.ifCond .ne 8, 3) := by decide +kernel
theorem dX5_sheets_114 : decode cX5_sheets 114 = .ok (.bipush 12, 2) := by decide +kernel
theorem dX5_sheets_116 : decode cX5_sheets 116 = .ok (.goto 10, 3) := by decide +kernel
theorem dX5_sheets_119 : decode cX5_sheets 119 = .ok (.aload_n 0, 1) := by decide +kernel
theorem dX5_sheets_120 : decode cX5_sheets 120 = .ok (.getfield 7, 3) := by decide +kernel
theorem dX5_sheets_123 : decode cX5_sheets 123 = .ok (.bipush 64, 2) := by decide +kernel
theorem dX5_sheets_125 : decode cX5_sheets 125 = .ok (.iaload, 1) := by decide +kernel
theorem dX5_sheets_126 : decode cX5_sheets 126 = .ok (.iastore, 1) := by decide +kernel
theorem dX5_sheets_127 : decode cX5_sheets 127 = .ok (.aload_n 0, 1) := by decide +kernel
theorem dX5_sheets_128 : decode cX5_sheets 128 = .ok (.iload 4, 2) := by decide +kernel
theorem dX5_sheets_130 : decode cX5_sheets 130 = .ok (.iload 5, 2) := by decide +kernel
theorem dX5_sheets_132 : decode cX5_sheets 132 = .ok (.iload 6, 2) := by decide +kernel
theorem dX5_sheets_134 : decode cX5_sheets 134 = .ok (.bipush 8, 2) := by decide +kernel
theorem dX5_sheets_136 : decode cX5_sheets 136 = .ok (.irem, 1) := by decide +kernel
theorem dX5_sheets_137 : decode cX5_sheets 137 = .ok (.iload 6, 2) := by decide +kernel
theorem dX5_sheets_139 : decode cX5_sheets 139 = .ok (.bipush 8, 2) := by decide +kernel
theorem dX5_sheets_141 : decode cX5_sheets 141 = .ok (.idiv, 1) := by decide +kernel
theorem dX5_sheets_142 : decode cX5_sheets 142 = .ok (.iload 7, 2) := by decide +kernel
theorem dX5_sheets_144 : decode cX5_sheets 144 = .ok (.invokevirtual 132, 3) := by decide +kernel
theorem dX5_sheets_147 : decode cX5_sheets 147 = .ok (.pop, 1) := by decide +kernel
theorem dX5_sheets_148 : decode cX5_sheets 148 = .ok (.iinc 3 1, 3) := by decide +kernel
theorem dX5_sheets_151 : decode cX5_sheets 151 = .ok (.goto (-88), 3) := by decide +kernel
theorem dX5_sheets_154 : decode cX5_sheets 154 = .ok (.iconst 0, 1) := by decide +kernel
theorem dX5_sheets_155 : decode cX5_sheets 155 = .ok (.istore_n 3, 1) := by decide +kernel
theorem dX5_sheets_156 : decode cX5_sheets 156 = .ok (.iconst 0, 1) := by decide +kernel
theorem dX5_sheets_157 : decode cX5_sheets 157 = .ok (.istore 4, 2) := by decide +kernel
theorem dX5_sheets_159 : decode cX5_sheets 159 = .ok (.iload 4, 2) := by decide +kernel
theorem dX5_sheets_161 : decode cX5_sheets 161 = .ok (.bipush 64, 2) := by decide +kernel
theorem dX5_sheets_163 : decode cX5_sheets 163 = .ok (.if_icmp .ge 21, 3) := by decide +kernel
theorem dX5_sheets_166 : decode cX5_sheets 166 = .ok (.iload_n 3, 1) := by decide +kernel
theorem dX5_sheets_167 : decode cX5_sheets 167 = .ok (.aload_n 0, 1) := by decide +kernel
theorem dX5_sheets_168 : decode cX5_sheets 168 = .ok (.getfield 7, 3) := by decide +kernel
theorem dX5_sheets_171 : decode cX5_sheets 171 = .ok (.iconst 0, 1) := by decide +kernel
theorem dX5_sheets_172 : decode cX5_sheets 172 = .ok (.iload 4, 2) := by decide +kernel
theorem dX5_sheets_174 : decode cX5_sheets 174 = .ok (.iadd, 1) := by decide +kernel
theorem dX5_sheets_175 : decode cX5_sheets 175 = .ok (.iaload, 1) := by decide +kernel
theorem dX5_sheets_176 : decode cX5_sheets 176 = .ok (.iadd, 1) := by decide +kernel
theorem dX5_sheets_177 : decode cX5_sheets 177 = .ok (.istore_n 3, 1) := by decide +kernel
theorem dX5_sheets_178 : decode cX5_sheets 178 = .ok (.iinc 4 1, 3) := by decide +kernel
theorem dX5_sheets_181 : decode cX5_sheets 181 = .ok (.goto (-22), 3) := by decide +kernel
theorem dX5_sheets_184 : decode cX5_sheets 184 = .ok (.iconst 0, 1) := by decide +kernel
theorem dX5_sheets_185 : decode cX5_sheets 185 = .ok (.istore 4, 2) := by decide +kernel
theorem dX5_sheets_187 : decode cX5_sheets 187 = .ok (.iload 4, 2) := by decide +kernel
theorem dX5_sheets_189 : decode cX5_sheets 189 = .ok (.bipush 99, 2) := by decide +kernel
theorem dX5_sheets_191 : decode cX5_sheets 191 = .ok (.if_icmp .ge 23, 3) := by decide +kernel
theorem dX5_sheets_194 : decode cX5_sheets 194 = .ok (.aload_n 0, 1) := by decide +kernel
theorem dX5_sheets_195 : decode cX5_sheets 195 = .ok (.getfield 7, 3) := by decide +kernel
theorem dX5_sheets_198 : decode cX5_sheets 198 = .ok (.iload 4, 2) := by decide +kernel
theorem dX5_sheets_200 : decode cX5_sheets 200 = .ok (.aload_n 0, 1) := by decide +kernel
theorem dX5_sheets_201 : decode cX5_sheets 201 = .ok (.getfield 38, 3) := by decide +kernel
theorem dX5_sheets_204 : decode cX5_sheets 204 = .ok (.iload 4, 2) := by decide +kernel
theorem dX5_sheets_206 : decode cX5_sheets 206 = .ok (.iaload, 1) := by decide +kernel
theorem dX5_sheets_207 : decode cX5_sheets 207 = .ok (.iastore, 1) := by decide +kernel
theorem dX5_sheets_208 : decode cX5_sheets 208 = .ok (.iinc 4 1, 3) := by decide +kernel
theorem dX5_sheets_211 : decode cX5_sheets 211 = .ok (.goto (-24), 3) := by decide +kernel
theorem dX5_sheets_214 : decode cX5_sheets 214 = .ok (.iload_n 3, 1) := by decide +kernel
theorem dX5_sheets_215 : decode cX5_sheets 215 = .ok (.ireturn, 1) := by decide +kernel
theorem dX5_part_0 : decode cX5_part 0 = .ok (.iload_n 1, 1) := by decide +kernel
theorem dX5_part_1 : decode cX5_part 1 = .ok (.ifCond .ne 10, 3) := by decide +kernel
theorem dX5_part_4 : decode cX5_part 4 = .ok (.aload_n 0, 1) := by decide +kernel
theorem dX5_part_5 : decode cX5_part 5 = .ok (.getfield 219, 3) := by decide +kernel
theorem dX5_part_8 : decode cX5_part 8 = .ok (.goto 20, 3) := by decide +kernel
theorem dX5_part_11 : decode cX5_part 11 = .ok (.iload_n 1, 1) := by decide +kernel
theorem dX5_part_12 : decode cX5_part 12 = .ok (.iconst 1, 1) := by decide +kernel
theorem dX5_part_13 : decode cX5_part 13 = .ok (.if_icmp .ne 10, 3) := by decide +kernel
theorem dX5_part_16 : decode cX5_part 16 = .ok (.aload_n 0, 1) := by decide +kernel
theorem dX5_part_17 : decode cX5_part 17 = .ok (.getfield 13, 3) := by decide +kernel
theorem dX5_part_20 : decode cX5_part 20 = .ok (.goto 8, 3) := by decide +kernel
theorem dX5_part_23 : decode cX5_part 23 = .ok (.aload_n 0, 1) := by decide +kernel
theorem dX5_part_24 : decode cX5_part 24 = .ok (.invokevirtual 110, 3) := by decide +kernel
theorem dX5_part_27 : decode cX5_part 27 = .ok (.i2l, 1) := by decide +kernel
theorem dX5_part_28 : decode cX5_part 28 = .ok (.lreturn, 1) := by decide +kernel
theorem dX5_image_0 : decode cX5_image 0 = .ok (.iload_n 1, 1) := by decide +kernel
theorem dX5_image_1 : decode cX5_image 1 = .ok (.invokestatic 62, 3) := by decide +kernel
theorem dX5_image_4 : decode cX5_image 4 = .ok (.ifCond .ne 8, 3) := by decide +kernel
theorem dX5_image_7 : decode cX5_image 7 = .ok (.aload_n 0, 1) := by decide +kernel
theorem dX5_image_8 : decode cX5_image 8 = .ok (.invokevirtual 110, 3) := by decide +kernel
theorem dX5_image_11 : decode cX5_image 11 = .ok (.ireturn, 1) := by decide +kernel
theorem dX5_image_12 : decode cX5_image 12 = .ok (.iconst 0, 1) := by decide +kernel
theorem dX5_image_13 : decode cX5_image 13 = .ok (.istore_n 2, 1) := by decide +kernel
theorem dX5_image_14 : decode cX5_image 14 = .ok (.iload_n 2, 1) := by decide +kernel
theorem dX5_image_15 : decode cX5_image 15 = .ok (.bipush 99, 2) := by decide +kernel
theorem dX5_image_17 : decode cX5_image 17 = .ok (.if_icmp .ge 26, 3) := by decide +kernel
theorem dX5_image_20 : decode cX5_image 20 = .ok (.aload_n 0, 1) := by decide +kernel
theorem dX5_image_21 : decode cX5_image 21 = .ok (.getfield 45, 3) := by decide +kernel
theorem dX5_image_24 : decode cX5_image 24 = .ok (.bipush 99, 2) := by decide +kernel
theorem dX5_image_26 : decode cX5_image 26 = .ok (.iload_n 1, 1) := by decide +kernel
theorem dX5_image_27 : decode cX5_image 27 = .ok (.imul, 1) := by decide +kernel
theorem dX5_image_28 : decode cX5_image 28 = .ok (.iload_n 2, 1) := by decide +kernel
theorem dX5_image_29 : decode cX5_image 29 = .ok (.iadd, 1) := by decide +kernel
theorem dX5_image_30 : decode cX5_image 30 = .ok (.aload_n 0, 1) := by decide +kernel
theorem dX5_image_31 : decode cX5_image 31 = .ok (.getfield 7, 3) := by decide +kernel
theorem dX5_image_34 : decode cX5_image 34 = .ok (.iload_n 2, 1) := by decide +kernel
theorem dX5_image_35 : decode cX5_image 35 = .ok (.iaload, 1) := by decide +kernel
theorem dX5_image_36 : decode cX5_image 36 = .ok (.iastore, 1) := by decide +kernel
theorem dX5_image_37 : decode cX5_image 37 = .ok (.iinc 2 1, 3) := by decide +kernel
theorem dX5_image_40 : decode cX5_image 40 = .ok (.goto (-26), 3) := by decide +kernel
theorem dX5_image_43 : decode cX5_image 43 = .ok (.iconst 0, 1) := by decide +kernel
theorem dX5_image_44 : decode cX5_image 44 = .ok (.istore_n 2, 1) := by decide +kernel
theorem dX5_image_45 : decode cX5_image 45 = .ok (.iload_n 2, 1) := by decide +kernel
theorem dX5_image_46 : decode cX5_image 46 = .ok (.sipush 520, 3) := by decide +kernel
theorem dX5_image_49 : decode cX5_image 49 = .ok (.if_icmp .ge 27, 3) := by decide +kernel
theorem dX5_image_52 : decode cX5_image 52 = .ok (.aload_n 0, 1) := by decide +kernel
theorem dX5_image_53 : decode cX5_image 53 = .ok (.getfield 48, 3) := by decide +kernel
theorem dX5_image_56 : decode cX5_image 56 = .ok (.sipush 520, 3) := by decide +kernel
theorem dX5_image_59 : decode cX5_image 59 = .ok (.iload_n 1, 1) := by decide +kernel
theorem dX5_image_60 : decode cX5_image 60 = .ok (.imul, 1) := by decide +kernel
theorem dX5_image_61 : decode cX5_image 61 = .ok (.iload_n 2, 1) := by decide +kernel
theorem dX5_image_62 : decode cX5_image 62 = .ok (.iadd, 1) := by decide +kernel
theorem dX5_image_63 : decode cX5_image 63 = .ok (.aload_n 0, 1) := by decide +kernel
theorem dX5_image_64 : decode cX5_image 64 = .ok (.getfield 23, 3) := by decide +kernel
theorem dX5_image_67 : decode cX5_image 67 = .ok (.iload_n 2, 1) := by decide +kernel
theorem dX5_image_68 : decode cX5_image 68 = .ok (.iaload, 1) := by decide +kernel
theorem dX5_image_69 : decode cX5_image 69 = .ok (.iastore, 1) := by decide +kernel
theorem dX5_image_70 : decode cX5_image 70 = .ok (.iinc 2 1, 3) := by decide +kernel
theorem dX5_image_73 : decode cX5_image 73 = .ok (.goto (-28), 3) := by decide +kernel
theorem dX5_image_76 : decode cX5_image 76 = .ok (.aload_n 0, 1) := by decide +kernel
theorem dX5_image_77 : decode cX5_image 77 = .ok (.getfield 51, 3) := by decide +kernel
theorem dX5_image_80 : decode cX5_image 80 = .ok (.iload_n 1, 1) := by decide +kernel
theorem dX5_image_81 : decode cX5_image 81 = .ok (.aload_n 0, 1) := by decide +kernel
theorem dX5_image_82 : decode cX5_image 82 = .ok (.getfield 104, 3) := by decide +kernel
theorem dX5_image_85 : decode cX5_image 85 = .ok (.iastore, 1) := by decide +kernel
theorem dX5_image_86 : decode cX5_image 86 = .ok (.aload_n 0, 1) := by decide +kernel
theorem dX5_image_87 : decode cX5_image 87 = .ok (.getfield 41, 3) := by decide +kernel
theorem dX5_image_90 : decode cX5_image 90 = .ok (.iload_n 1, 1) := by decide +kernel
theorem dX5_image_91 : decode cX5_image 91 = .ok (.iconst 1, 1) := by decide +kernel
theorem dX5_image_92 : decode cX5_image 92 = .ok (.bastore, 1) := by decide +kernel
theorem dX5_image_93 : decode cX5_image 93 = .ok (.iconst 1, 1) := by decide +kernel
theorem dX5_image_94 : decode cX5_image 94 = .ok (.ireturn, 1) := by decide +kernel
theorem dX5_from_0 : decode cX5_from 0 = .ok (.iload_n 1, 1) := by decide +kernel
theorem dX5_from_1 : decode cX5_from 1 = .ok (.invokestatic 62, 3) := by decide +kernel
theorem dX5_from_4 : decode cX5_from 4 = .ok (.ifCond .ne 8, 3) := by decide +kernel
theorem dX5_from_7 : decode cX5_from 7 = .ok (.aload_n 0, 1) := by decide +kernel
theorem dX5_from_8 : decode cX5_from 8 = .ok (.invokevirtual 110, 3) := by decide +kernel
theorem dX5_from_11 : decode cX5_from 11 = .ok (.ireturn, 1) := by decide +kernel
theorem dX5_from_12 : decode cX5_from 12 = .ok (.aload_n 0, 1) := by decide +kernel
theorem dX5_from_13 : decode cX5_from 13 = .ok (.getfield 41, 3) := by decide +kernel
theorem dX5_from_16 : decode cX5_from 16 = .ok (.iload_n 1, 1) := by decide +kernel
theorem dX5_from_17 : decode cX5_from 17 = .ok (.baload, 1) := by decide +kernel
theorem dX5_from_18 : decode cX5_from 18 = .ok (.ifCond .ne 8, 3) := by decide +kernel
theorem dX5_from_21 : decode cX5_from 21 = .ok (.aload_n 0, 1) := by decide +kernel
theorem dX5_from_22 : decode cX5_from 22 = .ok (.invokevirtual 129, 3) := by decide +kernel
theorem dX5_from_25 : decode cX5_from 25 = .ok (.ireturn, 1) := by decide +kernel
theorem dX5_from_26 : decode cX5_from 26 = .ok (.iconst 0, 1) := by decide +kernel
theorem dX5_from_27 : decode cX5_from 27 = .ok (.istore_n 2, 1) := by decide +kernel
theorem dX5_from_28 : decode cX5_from 28 = .ok (.iload_n 2, 1) := by decide +kernel
theorem dX5_from_29 : decode cX5_from 29 = .ok (.bipush 99, 2) := by decide +kernel
theorem dX5_from_31 : decode cX5_from 31 = .ok (.if_icmp .ge 26, 3) := by decide +kernel
theorem dX5_from_34 : decode cX5_from 34 = .ok (.aload_n 0, 1) := by decide +kernel
theorem dX5_from_35 : decode cX5_from 35 = .ok (.getfield 7, 3) := by decide +kernel
theorem dX5_from_38 : decode cX5_from 38 = .ok (.iload_n 2, 1) := by decide +kernel
theorem dX5_from_39 : decode cX5_from 39 = .ok (.aload_n 0, 1) := by decide +kernel
theorem dX5_from_40 : decode cX5_from 40 = .ok (.getfield 45, 3) := by decide +kernel
theorem dX5_from_43 : decode cX5_from 43 = .ok (.bipush 99, 2) := by decide +kernel
theorem dX5_from_45 : decode cX5_from 45 = .ok (.iload_n 1, 1) := by decide +kernel
theorem dX5_from_46 : decode cX5_from 46 = .ok (.imul, 1) := by decide +kernel
theorem dX5_from_47 : decode cX5_from 47 = .ok (.iload_n 2, 1) := by decide +kernel
theorem dX5_from_48 : decode cX5_from 48 = .ok (.iadd, 1) := by decide +kernel
theorem dX5_from_49 : decode cX5_from 49 = .ok (.iaload, 1) := by decide +kernel
theorem dX5_from_50 : decode cX5_from 50 = .ok (.iastore, 1) := by decide +kernel
theorem dX5_from_51 : decode cX5_from 51 = .ok (.iinc 2 1, 3) := by decide +kernel
theorem dX5_from_54 : decode cX5_from 54 = .ok (.goto (-26), 3) := by decide +kernel
theorem dX5_from_57 : decode cX5_from 57 = .ok (.iconst 0, 1) := by decide +kernel
theorem dX5_from_58 : decode cX5_from 58 = .ok (.istore_n 2, 1) := by decide +kernel
theorem dX5_from_59 : decode cX5_from 59 = .ok (.iload_n 2, 1) := by decide +kernel
theorem dX5_from_60 : decode cX5_from 60 = .ok (.sipush 520, 3) := by decide +kernel
theorem dX5_from_63 : decode cX5_from 63 = .ok (.if_icmp .ge 27, 3) := by decide +kernel
theorem dX5_from_66 : decode cX5_from 66 = .ok (.aload_n 0, 1) := by decide +kernel
theorem dX5_from_67 : decode cX5_from 67 = .ok (.getfield 23, 3) := by decide +kernel
theorem dX5_from_70 : decode cX5_from 70 = .ok (.iload_n 2, 1) := by decide +kernel
theorem dX5_from_71 : decode cX5_from 71 = .ok (.aload_n 0, 1) := by decide +kernel
theorem dX5_from_72 : decode cX5_from 72 = .ok (.getfield 48, 3) := by decide +kernel
theorem dX5_from_75 : decode cX5_from 75 = .ok (.sipush 520, 3) := by decide +kernel
theorem dX5_from_78 : decode cX5_from 78 = .ok (.iload_n 1, 1) := by decide +kernel
theorem dX5_from_79 : decode cX5_from 79 = .ok (.imul, 1) := by decide +kernel
theorem dX5_from_80 : decode cX5_from 80 = .ok (.iload_n 2, 1) := by decide +kernel
theorem dX5_from_81 : decode cX5_from 81 = .ok (.iadd, 1) := by decide +kernel
theorem dX5_from_82 : decode cX5_from 82 = .ok (.iaload, 1) := by decide +kernel
theorem dX5_from_83 : decode cX5_from 83 = .ok (.iastore, 1) := by decide +kernel
theorem dX5_from_84 : decode cX5_from 84 = .ok (.iinc 2 1, 3) := by decide +kernel
theorem dX5_from_87 : decode cX5_from 87 = .ok (.goto (-28), 3) := by decide +kernel
theorem dX5_from_90 : decode cX5_from 90 = .ok (.aload_n 0, 1) := by decide +kernel
theorem dX5_from_91 : decode cX5_from 91 = .ok (.aload_n 0, 1) := by decide +kernel
theorem dX5_from_92 : decode cX5_from 92 = .ok (.getfield 51, 3) := by decide +kernel
theorem dX5_from_95 : decode cX5_from 95 = .ok (.iload_n 1, 1) := by decide +kernel
theorem dX5_from_96 : decode cX5_from 96 = .ok (.iaload, 1) := by decide +kernel
theorem dX5_from_97 : decode cX5_from 97 = .ok (.putfield 104, 3) := by decide +kernel
theorem dX5_from_100 : decode cX5_from 100 = .ok (.iconst 1, 1) := by decide +kernel
theorem dX5_from_101 : decode cX5_from 101 = .ok (.ireturn, 1) := by decide +kernel
theorem dX5_status_0 : decode cX5_status 0 = .ok (.iload_n 1, 1) := by decide +kernel
theorem dX5_status_1 : decode cX5_status 1 = .ok (.i2l, 1) := by decide +kernel
theorem dX5_status_2 : decode cX5_status 2 = .ok (.lconst 0, 1) := by decide +kernel
theorem dX5_status_3 : decode cX5_status 3 = .ok (.ldc2_w 248, 3) := by decide +kernel
theorem dX5_status_6 : decode cX5_status 6 = .ok (.invokestatic 54, 3) := by decide +kernel
theorem dX5_status_9 : decode cX5_status 9 = .ok (.ifCond .ne 10, 3) := by decide +kernel
theorem dX5_status_12 : decode cX5_status 12 = .ok (.aload_n 0, 1) := by decide +kernel
theorem dX5_status_13 : decode cX5_status 13 = .ok (.invokevirtual 110, 3) := by decide +kernel
theorem dX5_status_16 : decode cX5_status 16 = .ok (.pop, 1) := by decide +kernel
theorem dX5_status_17 : decode cX5_status 17 = .ok (.iconst (-1), 1) := by decide +kernel
theorem dX5_status_18 : decode cX5_status 18 = .ok (.ireturn, 1) := by decide +kernel
theorem dX5_status_19 : decode cX5_status 19 = .ok (.aload_n 0, 1) := by decide +kernel
theorem dX5_status_20 : decode cX5_status 20 = .ok (.getfield 17, 3) := by decide +kernel
theorem dX5_status_23 : decode cX5_status 23 = .ok (.iload_n 1, 1) := by decide +kernel
theorem dX5_status_24 : decode cX5_status 24 = .ok (.iaload, 1) := by decide +kernel
theorem dX5_status_25 : decode cX5_status 25 = .ok (.ireturn, 1) := by decide +kernel
theorem dX5_countOf_0 : decode cX5_countOf 0 = .ok (.iload_n 1, 1) := by decide +kernel
theorem dX5_countOf_1 : decode cX5_countOf 1 = .ok (.ifCond .ne 10, 3) := by decide +kernel
theorem dX5_countOf_4 : decode cX5_countOf 4 = .ok (.aload_n 0, 1) := by decide +kernel
theorem dX5_countOf_5 : decode cX5_countOf 5 = .ok (.invokevirtual 113, 3) := by decide +kernel
theorem dX5_countOf_8 : decode cX5_countOf 8 = .ok (.goto 64, 3) := by decide +kernel
theorem dX5_countOf_11 : decode cX5_countOf 11 = .ok (.iload_n 1, 1) := by decide +kernel
theorem dX5_countOf_12 : decode cX5_countOf 12 = .ok (.iconst 1, 1) := by decide +kernel
theorem dX5_countOf_13 : decode cX5_countOf 13 = .ok (.if_icmp .ne 13, 3) := by decide +kernel
theorem dX5_countOf_16 : decode cX5_countOf 16 = .ok (.aload_n 0, 1) := by decide +kernel
theorem dX5_countOf_17 : decode cX5_countOf 17 = .ok (.getfield 7, 3) := by decide +kernel
theorem dX5_countOf_20 : decode cX5_countOf 20 = .ok (.bipush 64, 2) := by decide +kernel
theorem dX5_countOf_22 : decode cX5_countOf 22 = .ok (.iaload, 1) := by decide +kernel
theorem dX5_countOf_23 : decode cX5_countOf 23 = .ok (.goto 49, 3) := by decide +kernel
theorem dX5_countOf_26 : decode cX5_countOf 26 = .ok (.iload_n 1, 1) := by decide +kernel
theorem dX5_countOf_27 : decode cX5_countOf 27 = .ok (.iconst 2, 1) := by decide +kernel
theorem dX5_countOf_28 : decode cX5_countOf 28 = .ok (.if_icmp .ne 13, 3) := by decide +kernel
theorem dX5_countOf_31 : decode cX5_countOf 31 = .ok (.aload_n 0, 1) := by decide +kernel
theorem dX5_countOf_32 : decode cX5_countOf 32 = .ok (.getfield 7, 3) := by decide +kernel
theorem dX5_countOf_35 : decode cX5_countOf 35 = .ok (.bipush 67, 2) := by decide +kernel
theorem dX5_countOf_37 : decode cX5_countOf 37 = .ok (.iaload, 1) := by decide +kernel
theorem dX5_countOf_38 : decode cX5_countOf 38 = .ok (.goto 34, 3) := by decide +kernel
theorem dX5_countOf_41 : decode cX5_countOf 41 = .ok (.iload_n 1, 1) := by decide +kernel
theorem dX5_countOf_42 : decode cX5_countOf 42 = .ok (.iconst 3, 1) := by decide +kernel
theorem dX5_countOf_43 : decode cX5_countOf 43 = .ok (.if_icmp .ne 13, 3) := by decide +kernel
theorem dX5_countOf_46 : decode cX5_countOf 46 = .ok (.aload_n 0, 1) := by decide +kernel
theorem dX5_countOf_47 : decode cX5_countOf 47 = .ok (.getfield 7, 3) := by decide +kernel
theorem dX5_countOf_50 : decode cX5_countOf 50 = .ok (.bipush 76, 2) := by decide +kernel
theorem dX5_countOf_52 : decode cX5_countOf 52 = .ok (.iaload, 1) := by decide +kernel
theorem dX5_countOf_53 : decode cX5_countOf 53 = .ok (.goto 19, 3) := by decide +kernel
theorem dX5_countOf_56 : decode cX5_countOf 56 = .ok (.iload_n 1, 1) := by decide +kernel
theorem dX5_countOf_57 : decode cX5_countOf 57 = .ok (.iconst 4, 1) := by decide +kernel
theorem dX5_countOf_58 : decode cX5_countOf 58 = .ok (.if_icmp .ne 10, 3) := by decide +kernel
theorem dX5_countOf_61 : decode cX5_countOf 61 = .ok (.aload_n 0, 1) := by decide +kernel
theorem dX5_countOf_62 : decode cX5_countOf 62 = .ok (.getfield 104, 3) := by decide +kernel
theorem dX5_countOf_65 : decode cX5_countOf 65 = .ok (.goto 7, 3) := by decide +kernel
theorem dX5_countOf_68 : decode cX5_countOf 68 = .ok (.aload_n 0, 1) := by decide +kernel
theorem dX5_countOf_69 : decode cX5_countOf 69 = .ok (.getfield 138, 3) := by decide +kernel
theorem dX5_countOf_72 : decode cX5_countOf 72 = .ok (.ireturn, 1) := by decide +kernel
theorem dX5_count_0 : decode cX5_count 0 = .ok (.iload_n 1, 1) := by decide +kernel
theorem dX5_count_1 : decode cX5_count 1 = .ok (.i2l, 1) := by decide +kernel
theorem dX5_count_2 : decode cX5_count 2 = .ok (.lconst 0, 1) := by decide +kernel
theorem dX5_count_3 : decode cX5_count 3 = .ok (.ldc2_w 60, 3) := by decide +kernel
theorem dX5_count_6 : decode cX5_count 6 = .ok (.invokestatic 54, 3) := by decide +kernel
theorem dX5_count_9 : decode cX5_count 9 = .ok (.ifCond .eq 11, 3) := by decide +kernel
theorem dX5_count_12 : decode cX5_count 12 = .ok (.aload_n 0, 1) := by decide +kernel
theorem dX5_count_13 : decode cX5_count 13 = .ok (.iload_n 1, 1) := by decide +kernel
theorem dX5_count_14 : decode cX5_count 14 = .ok (.invokevirtual 250, 3) := by decide +kernel
theorem dX5_count_17 : decode cX5_count 17 = .ok (.goto 7, 3) := by decide +kernel
theorem dX5_count_20 : decode cX5_count 20 = .ok (.aload_n 0, 1) := by decide +kernel
theorem dX5_count_21 : decode cX5_count 21 = .ok (.invokevirtual 110, 3) := by decide +kernel
theorem dX5_count_24 : decode cX5_count 24 = .ok (.ireturn, 1) := by decide +kernel
theorem dX5_digest_0 : decode cX5_digest 0 = .ok (.ldc2_w 253, 3) := by decide +kernel
theorem dX5_digest_3 : decode cX5_digest 3 = .ok (.lstore_n 1, 1) := by decide +kernel
theorem dX5_digest_4 : decode cX5_digest 4 = .ok (.iconst 0, 1) := by decide +kernel
theorem dX5_digest_5 : decode cX5_digest 5 = .ok (.istore_n 3, 1) := by decide +kernel
theorem dX5_digest_6 : decode cX5_digest 6 = .ok (.iload_n 3, 1) := by decide +kernel
theorem dX5_digest_7 : decode cX5_digest 7 = .ok (.bipush 6, 2) := by decide +kernel
theorem dX5_digest_9 : decode cX5_digest 9 = .ok (.if_icmp .ge 22, 3) := by decide +kernel
theorem dX5_digest_12 : decode cX5_digest 12 = .ok (.ldc2_w 255, 3) := by decide +kernel
theorem dX5_digest_15 : decode cX5_digest 15 = .ok (.lload_n 1, 1) := by decide +kernel
theorem dX5_digest_16 : decode cX5_digest 16 = .ok (.lmul, 1) := by decide +kernel
theorem dX5_digest_17 : decode cX5_digest 17 = .ok (.aload_n 0, 1) := by decide +kernel
theorem dX5_digest_18 : decode cX5_digest 18 = .ok (.iload_n 3, 1) := by decide +kernel
theorem dX5_digest_19 : decode cX5_digest 19 = .ok (.invokevirtual 250, 3) := by decide +kernel
theorem dX5_digest_22 : decode cX5_digest 22 = .ok (.i2l, 1) := by decide +kernel
theorem dX5_digest_23 : decode cX5_digest 23 = .ok (.ladd, 1) := by decide +kernel
theorem dX5_digest_24 : decode cX5_digest 24 = .ok (.lstore_n 1, 1) := by decide +kernel
theorem dX5_digest_25 : decode cX5_digest 25 = .ok (.iinc 3 1, 3) := by decide +kernel
theorem dX5_digest_28 : decode cX5_digest 28 = .ok (.goto (-22), 3) := by decide +kernel
theorem dX5_digest_31 : decode cX5_digest 31 = .ok (.ldc2_w 255, 3) := by decide +kernel
theorem dX5_digest_34 : decode cX5_digest 34 = .ok (.lload_n 1, 1) := by decide +kernel
theorem dX5_digest_35 : decode cX5_digest 35 = .ok (.lmul, 1) := by decide +kernel
theorem dX5_digest_36 : decode cX5_digest 36 = .ok (.aload_n 0, 1) := by decide +kernel
theorem dX5_digest_37 : decode cX5_digest 37 = .ok (.getfield 7, 3) := by decide +kernel
theorem dX5_digest_40 : decode cX5_digest 40 = .ok (.bipush 65, 2) := by decide +kernel
theorem dX5_digest_42 : decode cX5_digest 42 = .ok (.iaload, 1) := by decide +kernel
theorem dX5_digest_43 : decode cX5_digest 43 = .ok (.i2l, 1) := by decide +kernel
theorem dX5_digest_44 : decode cX5_digest 44 = .ok (.ladd, 1) := by decide +kernel
theorem dX5_digest_45 : decode cX5_digest 45 = .ok (.lstore_n 1, 1) := by decide +kernel
theorem dX5_digest_46 : decode cX5_digest 46 = .ok (.ldc2_w 255, 3) := by decide +kernel
theorem dX5_digest_49 : decode cX5_digest 49 = .ok (.lload_n 1, 1) := by decide +kernel
theorem dX5_digest_50 : decode cX5_digest 50 = .ok (.lmul, 1) := by decide +kernel
theorem dX5_digest_51 : decode cX5_digest 51 = .ok (.aload_n 0, 1) := by decide +kernel
theorem dX5_digest_52 : decode cX5_digest 52 = .ok (.getfield 7, 3) := by decide +kernel
theorem dX5_digest_55 : decode cX5_digest 55 = .ok (.bipush 66, 2) := by decide +kernel
theorem dX5_digest_57 : decode cX5_digest 57 = .ok (.iaload, 1) := by decide +kernel
theorem dX5_digest_58 : decode cX5_digest 58 = .ok (.i2l, 1) := by decide +kernel
theorem dX5_digest_59 : decode cX5_digest 59 = .ok (.ladd, 1) := by decide +kernel
theorem dX5_digest_60 : decode cX5_digest 60 = .ok (.lstore_n 1, 1) := by decide +kernel
theorem dX5_digest_61 : decode cX5_digest 61 = .ok (.iconst 0, 1) := by decide +kernel
theorem dX5_digest_62 : decode cX5_digest 62 = .ok (.istore_n 3, 1) := by decide +kernel
theorem dX5_digest_63 : decode cX5_digest 63 = .ok (.iload_n 3, 1) := by decide +kernel
theorem dX5_digest_64 : decode cX5_digest 64 = .ok (.bipush 64, 2) := by decide +kernel
theorem dX5_digest_66 : decode cX5_digest 66 = .ok (.if_icmp .ge 25, 3) := by decide +kernel
theorem dX5_digest_69 : decode cX5_digest 69 = .ok (.ldc2_w 255, 3) := by decide +kernel
theorem dX5_digest_72 : decode cX5_digest 72 = .ok (.lload_n 1, 1) := by decide +kernel
theorem dX5_digest_73 : decode cX5_digest 73 = .ok (.lmul, 1) := by decide +kernel
theorem dX5_digest_74 : decode cX5_digest 74 = .ok (.aload_n 0, 1) := by decide +kernel
theorem dX5_digest_75 : decode cX5_digest 75 = .ok (.getfield 7, 3) := by decide +kernel
theorem dX5_digest_78 : decode cX5_digest 78 = .ok (.iconst 0, 1) := by decide +kernel
theorem dX5_digest_79 : decode cX5_digest 79 = .ok (.iload_n 3, 1) := by decide +kernel
theorem dX5_digest_80 : decode cX5_digest 80 = .ok (.iadd, 1) := by decide +kernel
theorem dX5_digest_81 : decode cX5_digest 81 = .ok (.iaload, 1) := by decide +kernel
theorem dX5_digest_82 : decode cX5_digest 82 = .ok (.i2l, 1) := by decide +kernel
theorem dX5_digest_83 : decode cX5_digest 83 = .ok (.ladd, 1) := by decide +kernel
theorem dX5_digest_84 : decode cX5_digest 84 = .ok (.lstore_n 1, 1) := by decide +kernel
theorem dX5_digest_85 : decode cX5_digest 85 = .ok (.iinc 3 1, 3) := by decide +kernel
theorem dX5_digest_88 : decode cX5_digest 88 = .ok (.goto (-25), 3) := by decide +kernel
theorem dX5_digest_91 : decode cX5_digest 91 = .ok (.iconst 0, 1) := by decide +kernel
theorem dX5_digest_92 : decode cX5_digest 92 = .ok (.istore_n 3, 1) := by decide +kernel
theorem dX5_digest_93 : decode cX5_digest 93 = .ok (.iload_n 3, 1) := by decide +kernel
theorem dX5_digest_94 : decode cX5_digest 94 = .ok (.aload_n 0, 1) := by decide +kernel
theorem dX5_digest_95 : decode cX5_digest 95 = .ok (.getfield 7, 3) := by decide +kernel
theorem dX5_digest_98 : decode cX5_digest 98 = .ok (.bipush 67, 2) := by decide +kernel
theorem dX5_digest_100 : decode cX5_digest 100 = .ok (.iaload, 1) := by decide +kernel
theorem dX5_digest_101 : decode cX5_digest 101 = .ok (.if_icmp .ge 26, 3) := by decide +kernel
theorem dX5_digest_104 : decode cX5_digest 104 = .ok (.ldc2_w 255, 3) := by decide +kernel
theorem dX5_digest_107 : decode cX5_digest 107 = .ok (.lload_n 1, 1) := by decide +kernel
theorem dX5_digest_108 : decode cX5_digest 108 = .ok (.lmul, 1) := by decide +kernel
theorem dX5_digest_109 : decode cX5_digest 109 = .ok (.aload_n 0, 1) := by decide +kernel
theorem dX5_digest_110 : decode cX5_digest 110 = .ok (.getfield 7, 3) := by decide +kernel
theorem dX5_digest_113 : decode cX5_digest 113 = .ok (.bipush 68, 2) := by decide +kernel
theorem dX5_digest_115 : decode cX5_digest 115 = .ok (.iload_n 3, 1) := by decide +kernel
theorem dX5_digest_116 : decode cX5_digest 116 = .ok (.iadd, 1) := by decide +kernel
theorem dX5_digest_117 : decode cX5_digest 117 = .ok (.iaload, 1) := by decide +kernel
theorem dX5_digest_118 : decode cX5_digest 118 = .ok (.i2l, 1) := by decide +kernel
theorem dX5_digest_119 : decode cX5_digest 119 = .ok (.ladd, 1) := by decide +kernel
theorem dX5_digest_120 : decode cX5_digest 120 = .ok (.lstore_n 1, 1) := by decide +kernel
theorem dX5_digest_121 : decode cX5_digest 121 = .ok (.iinc 3 1, 3) := by decide +kernel
theorem dX5_digest_124 : decode cX5_digest 124 = .ok (.goto (-31), 3) := by decide +kernel
theorem dX5_digest_127 : decode cX5_digest 127 = .ok (.iconst 0, 1) := by decide +kernel
theorem dX5_digest_128 : decode cX5_digest 128 = .ok (.istore_n 3, 1) := by decide +kernel
theorem dX5_digest_129 : decode cX5_digest 129 = .ok (.iload_n 3, 1) := by decide +kernel
theorem dX5_digest_130 : decode cX5_digest 130 = .ok (.aload_n 0, 1) := by decide +kernel
theorem dX5_digest_131 : decode cX5_digest 131 = .ok (.getfield 7, 3) := by decide +kernel
theorem dX5_digest_134 : decode cX5_digest 134 = .ok (.bipush 76, 2) := by decide +kernel
theorem dX5_digest_136 : decode cX5_digest 136 = .ok (.iaload, 1) := by decide +kernel
theorem dX5_digest_137 : decode cX5_digest 137 = .ok (.if_icmp .ge 47, 3) := by decide +kernel
theorem dX5_digest_140 : decode cX5_digest 140 = .ok (.ldc2_w 255, 3) := by decide +kernel
theorem dX5_digest_143 : decode cX5_digest 143 = .ok (.lload_n 1, 1) := by decide +kernel
theorem dX5_digest_144 : decode cX5_digest 144 = .ok (.lmul, 1) := by decide +kernel
theorem dX5_digest_145 : decode cX5_digest 145 = .ok (.aload_n 0, 1) := by decide +kernel
theorem dX5_digest_146 : decode cX5_digest 146 = .ok (.getfield 7, 3) := by decide +kernel
theorem dX5_digest_149 : decode cX5_digest 149 = .ok (.bipush 77, 2) := by decide +kernel
theorem dX5_digest_151 : decode cX5_digest 151 = .ok (.iload_n 3, 1) := by decide +kernel
theorem dX5_digest_152 : decode cX5_digest 152 = .ok (.iadd, 1) := by decide +kernel
theorem dX5_digest_153 : decode cX5_digest 153 = .ok (.iaload, 1) := by decide +kernel
theorem dX5_digest_154 : decode cX5_digest 154 = .ok (.iconst 2, 1) := by decide +kernel
theorem dX5_digest_155 : decode cX5_digest 155 = .ok (.idiv, 1) := by decide +kernel
theorem dX5_digest_156 : decode cX5_digest 156 = .ok (.i2l, 1) := by decide +kernel
theorem dX5_digest_157 : decode cX5_digest 157 = .ok (.ladd, 1) := by decide +kernel
theorem dX5_digest_158 : decode cX5_digest 158 = .ok (.lstore_n 1, 1) := by decide +kernel
theorem dX5_digest_159 : decode cX5_digest 159 = .ok (.ldc2_w 255, 3) := by decide +kernel
theorem dX5_digest_162 : decode cX5_digest 162 = .ok (.lload_n 1, 1) := by decide +kernel
theorem dX5_digest_163 : decode cX5_digest 163 = .ok (.lmul, 1) := by decide +kernel
theorem dX5_digest_164 : decode cX5_digest 164 = .ok (.aload_n 0, 1) := by decide +kernel
theorem dX5_digest_165 : decode cX5_digest 165 = .ok (.getfield 7, 3) := by decide +kernel
theorem dX5_digest_168 : decode cX5_digest 168 = .ok (.bipush 77, 2) := by decide +kernel
theorem dX5_digest_170 : decode cX5_digest 170 = .ok (.iload_n 3, 1) := by decide +kernel
theorem dX5_digest_171 : decode cX5_digest 171 = .ok (.iadd, 1) := by decide +kernel
theorem dX5_digest_172 : decode cX5_digest 172 = .ok (.iaload, 1) := by decide +kernel
theorem dX5_digest_173 : decode cX5_digest 173 = .ok (.iconst 2, 1) := by decide +kernel
theorem dX5_digest_174 : decode cX5_digest 174 = .ok (.irem, 1) := by decide +kernel
theorem dX5_digest_175 : decode cX5_digest 175 = .ok (.i2l, 1) := by decide +kernel
theorem dX5_digest_176 : decode cX5_digest 176 = .ok (.ladd, 1) := by decide +kernel
theorem dX5_digest_177 : decode cX5_digest 177 = .ok (.lstore_n 1, 1) := by decide +kernel
theorem dX5_digest_178 : decode cX5_digest 178 = .ok (.iinc 3 1, 3) := by decide +kernel
theorem dX5_digest_181 : decode cX5_digest 181 = .ok (.goto (-52), 3) := by decide +kernel
theorem dX5_digest_184 : decode cX5_digest 184 = .ok (.ldc2_w 255, 3) := by decide +kernel
theorem dX5_digest_187 : decode cX5_digest 187 = .ok (.lload_n 1, 1) := by decide +kernel
theorem dX5_digest_188 : decode cX5_digest 188 = .ok (.lmul, 1) := by decide +kernel
theorem dX5_digest_189 : decode cX5_digest 189 = .ok (.aload_n 0, 1) := by decide +kernel
theorem dX5_digest_190 : decode cX5_digest 190 = .ok (.getfield 219, 3) := by decide +kernel
theorem dX5_digest_193 : decode cX5_digest 193 = .ok (.ladd, 1) := by decide +kernel
theorem dX5_digest_194 : decode cX5_digest 194 = .ok (.lstore_n 1, 1) := by decide +kernel
theorem dX5_digest_195 : decode cX5_digest 195 = .ok (.ldc2_w 255, 3) := by decide +kernel
theorem dX5_digest_198 : decode cX5_digest 198 = .ok (.lload_n 1, 1) := by decide +kernel
theorem dX5_digest_199 : decode cX5_digest 199 = .ok (.lmul, 1) := by decide +kernel
theorem dX5_digest_200 : decode cX5_digest 200 = .ok (.aload_n 0, 1) := by decide +kernel
theorem dX5_digest_201 : decode cX5_digest 201 = .ok (.getfield 13, 3) := by decide +kernel
theorem dX5_digest_204 : decode cX5_digest 204 = .ok (.ladd, 1) := by decide +kernel
theorem dX5_digest_205 : decode cX5_digest 205 = .ok (.lreturn, 1) := by decide +kernel
theorem dJ13_bitCount_95d88_0 : decode cJ13_bitCount_95d88 0 = .ok (.lload_n 0, 1) := by decide +kernel
theorem dJ13_bitCount_95d88_1 : decode cJ13_bitCount_95d88 1 = .ok (.lload_n 0, 1) := by decide +kernel
theorem dJ13_bitCount_95d88_2 : decode cJ13_bitCount_95d88 2 = .ok (.iconst 1, 1) := by decide +kernel
theorem dJ13_bitCount_95d88_3 : decode cJ13_bitCount_95d88 3 = .ok (.lushr, 1) := by decide +kernel
theorem dJ13_bitCount_95d88_4 : decode cJ13_bitCount_95d88 4 = .ok (.ldc2_w 314, 3) := by decide +kernel
theorem dJ13_bitCount_95d88_7 : decode cJ13_bitCount_95d88 7 = .ok (.land, 1) := by decide +kernel
theorem dJ13_bitCount_95d88_8 : decode cJ13_bitCount_95d88 8 = .ok (.lsub, 1) := by decide +kernel
theorem dJ13_bitCount_95d88_9 : decode cJ13_bitCount_95d88 9 = .ok (.lstore_n 0, 1) := by decide +kernel
theorem dJ13_bitCount_95d88_10 : decode cJ13_bitCount_95d88 10 = .ok (.lload_n 0, 1) := by decide +kernel
theorem dJ13_bitCount_95d88_11 : decode cJ13_bitCount_95d88 11 = .ok (.ldc2_w 316, 3) := by decide +kernel
theorem dJ13_bitCount_95d88_14 : decode cJ13_bitCount_95d88 14 = .ok (.land, 1) := by decide +kernel
theorem dJ13_bitCount_95d88_15 : decode cJ13_bitCount_95d88 15 = .ok (.lload_n 0, 1) := by decide +kernel
theorem dJ13_bitCount_95d88_16 : decode cJ13_bitCount_95d88 16 = .ok (.iconst 2, 1) := by decide +kernel
theorem dJ13_bitCount_95d88_17 : decode cJ13_bitCount_95d88 17 = .ok (.lushr, 1) := by decide +kernel
theorem dJ13_bitCount_95d88_18 : decode cJ13_bitCount_95d88 18 = .ok (.ldc2_w 316, 3) := by decide +kernel
theorem dJ13_bitCount_95d88_21 : decode cJ13_bitCount_95d88 21 = .ok (.land, 1) := by decide +kernel
theorem dJ13_bitCount_95d88_22 : decode cJ13_bitCount_95d88 22 = .ok (.ladd, 1) := by decide +kernel
theorem dJ13_bitCount_95d88_23 : decode cJ13_bitCount_95d88 23 = .ok (.lstore_n 0, 1) := by decide +kernel
theorem dJ13_bitCount_95d88_24 : decode cJ13_bitCount_95d88 24 = .ok (.lload_n 0, 1) := by decide +kernel
theorem dJ13_bitCount_95d88_25 : decode cJ13_bitCount_95d88 25 = .ok (.lload_n 0, 1) := by decide +kernel
theorem dJ13_bitCount_95d88_26 : decode cJ13_bitCount_95d88 26 = .ok (.iconst 4, 1) := by decide +kernel
theorem dJ13_bitCount_95d88_27 : decode cJ13_bitCount_95d88 27 = .ok (.lushr, 1) := by decide +kernel
theorem dJ13_bitCount_95d88_28 : decode cJ13_bitCount_95d88 28 = .ok (.ladd, 1) := by decide +kernel
theorem dJ13_bitCount_95d88_29 : decode cJ13_bitCount_95d88 29 = .ok (.ldc2_w 318, 3) := by decide +kernel
theorem dJ13_bitCount_95d88_32 : decode cJ13_bitCount_95d88 32 = .ok (.land, 1) := by decide +kernel
theorem dJ13_bitCount_95d88_33 : decode cJ13_bitCount_95d88 33 = .ok (.lstore_n 0, 1) := by decide +kernel
theorem dJ13_bitCount_95d88_34 : decode cJ13_bitCount_95d88 34 = .ok (.lload_n 0, 1) := by decide +kernel
theorem dJ13_bitCount_95d88_35 : decode cJ13_bitCount_95d88 35 = .ok (.lload_n 0, 1) := by decide +kernel
theorem dJ13_bitCount_95d88_36 : decode cJ13_bitCount_95d88 36 = .ok (.bipush 8, 2) := by decide +kernel
theorem dJ13_bitCount_95d88_38 : decode cJ13_bitCount_95d88 38 = .ok (.lushr, 1) := by decide +kernel
theorem dJ13_bitCount_95d88_39 : decode cJ13_bitCount_95d88 39 = .ok (.ladd, 1) := by decide +kernel
theorem dJ13_bitCount_95d88_40 : decode cJ13_bitCount_95d88 40 = .ok (.lstore_n 0, 1) := by decide +kernel
theorem dJ13_bitCount_95d88_41 : decode cJ13_bitCount_95d88 41 = .ok (.lload_n 0, 1) := by decide +kernel
theorem dJ13_bitCount_95d88_42 : decode cJ13_bitCount_95d88 42 = .ok (.lload_n 0, 1) := by decide +kernel
theorem dJ13_bitCount_95d88_43 : decode cJ13_bitCount_95d88 43 = .ok (.bipush 16, 2) := by decide +kernel
theorem dJ13_bitCount_95d88_45 : decode cJ13_bitCount_95d88 45 = .ok (.lushr, 1) := by decide +kernel
theorem dJ13_bitCount_95d88_46 : decode cJ13_bitCount_95d88 46 = .ok (.ladd, 1) := by decide +kernel
theorem dJ13_bitCount_95d88_47 : decode cJ13_bitCount_95d88 47 = .ok (.lstore_n 0, 1) := by decide +kernel
theorem dJ13_bitCount_95d88_48 : decode cJ13_bitCount_95d88 48 = .ok (.lload_n 0, 1) := by decide +kernel
theorem dJ13_bitCount_95d88_49 : decode cJ13_bitCount_95d88 49 = .ok (.lload_n 0, 1) := by decide +kernel
theorem dJ13_bitCount_95d88_50 : decode cJ13_bitCount_95d88 50 = .ok (.bipush 32, 2) := by decide +kernel
theorem dJ13_bitCount_95d88_52 : decode cJ13_bitCount_95d88 52 = .ok (.lushr, 1) := by decide +kernel
theorem dJ13_bitCount_95d88_53 : decode cJ13_bitCount_95d88 53 = .ok (.ladd, 1) := by decide +kernel
theorem dJ13_bitCount_95d88_54 : decode cJ13_bitCount_95d88 54 = .ok (.lstore_n 0, 1) := by decide +kernel
theorem dJ13_bitCount_95d88_55 : decode cJ13_bitCount_95d88 55 = .ok (.lload_n 0, 1) := by decide +kernel
theorem dJ13_bitCount_95d88_56 : decode cJ13_bitCount_95d88 56 = .ok (.l2i, 1) := by decide +kernel
theorem dJ13_bitCount_95d88_57 : decode cJ13_bitCount_95d88 57 = .ok (.bipush 127, 2) := by decide +kernel
theorem dJ13_bitCount_95d88_59 : decode cJ13_bitCount_95d88 59 = .ok (.iand, 1) := by decide +kernel
theorem dJ13_bitCount_95d88_60 : decode cJ13_bitCount_95d88 60 = .ok (.ireturn, 1) := by decide +kernel
theorem dJ9_max_7cf53_0 : decode cJ9_max_7cf53 0 = .ok (.iload_n 0, 1) := by decide +kernel
theorem dJ9_max_7cf53_1 : decode cJ9_max_7cf53 1 = .ok (.iload_n 1, 1) := by decide +kernel
theorem dJ9_max_7cf53_2 : decode cJ9_max_7cf53 2 = .ok (.if_icmp .lt 7, 3) := by decide +kernel
theorem dJ9_max_7cf53_5 : decode cJ9_max_7cf53 5 = .ok (.iload_n 0, 1) := by decide +kernel
theorem dJ9_max_7cf53_6 : decode cJ9_max_7cf53 6 = .ok (.goto 4, 3) := by decide +kernel
theorem dJ9_max_7cf53_9 : decode cJ9_max_7cf53 9 = .ok (.iload_n 1, 1) := by decide +kernel
theorem dJ9_max_7cf53_10 : decode cJ9_max_7cf53 10 = .ok (.ireturn, 1) := by decide +kernel
theorem dJ9_min_7cf53_0 : decode cJ9_min_7cf53 0 = .ok (.iload_n 0, 1) := by decide +kernel
theorem dJ9_min_7cf53_1 : decode cJ9_min_7cf53 1 = .ok (.iload_n 1, 1) := by decide +kernel
theorem dJ9_min_7cf53_2 : decode cJ9_min_7cf53 2 = .ok (.if_icmp .gt 7, 3) := by decide +kernel
theorem dJ9_min_7cf53_5 : decode cJ9_min_7cf53 5 = .ok (.iload_n 0, 1) := by decide +kernel
theorem dJ9_min_7cf53_6 : decode cJ9_min_7cf53 6 = .ok (.goto 4, 3) := by decide +kernel
theorem dJ9_min_7cf53_9 : decode cJ9_min_7cf53 9 = .ok (.iload_n 1, 1) := by decide +kernel
theorem dJ9_min_7cf53_10 : decode cJ9_min_7cf53 10 = .ok (.ireturn, 1) := by decide +kernel
theorem dJ0_length_8abf5_0 : decode cJ0_length_8abf5 0 = .ok (.aload_n 0, 1) := by decide +kernel
theorem dJ0_length_8abf5_1 : decode cJ0_length_8abf5 1 = .ok (.getfield 9, 3) := by decide +kernel
theorem dJ0_length_8abf5_4 : decode cJ0_length_8abf5 4 = .ok (.arraylength, 1) := by decide +kernel
theorem dJ0_length_8abf5_5 : decode cJ0_length_8abf5 5 = .ok (.aload_n 0, 1) := by decide +kernel
theorem dJ0_length_8abf5_6 : decode cJ0_length_8abf5 6 = .ok (.invokevirtual 335, 3) := by decide +kernel
theorem dJ0_length_8abf5_9 : decode cJ0_length_8abf5 9 = .ok (.ishr, 1) := by decide +kernel
theorem dJ0_length_8abf5_10 : decode cJ0_length_8abf5 10 = .ok (.ireturn, 1) := by decide +kernel
theorem dJ0_charAt_5068e_0 : decode cJ0_charAt_5068e 0 = .ok (.aload_n 0, 1) := by decide +kernel
theorem dJ0_charAt_5068e_1 : decode cJ0_charAt_5068e 1 = .ok (.invokevirtual 492, 3) := by decide +kernel
theorem dJ0_charAt_5068e_4 : decode cJ0_charAt_5068e 4 = .ok (.ifCond .eq 12, 3) := by decide +kernel
theorem dJ0_charAt_5068e_7 : decode cJ0_charAt_5068e 7 = .ok (.aload_n 0, 1) := by decide +kernel
theorem dJ0_charAt_5068e_8 : decode cJ0_charAt_5068e 8 = .ok (.getfield 9, 3) := by decide +kernel
theorem dJ0_charAt_5068e_11 : decode cJ0_charAt_5068e 11 = .ok (.iload_n 1, 1) := by decide +kernel
theorem dJ0_charAt_5068e_12 : decode cJ0_charAt_5068e 12 = .ok (.invokestatic 495, 3) := by decide +kernel
theorem dJ0_charAt_5068e_15 : decode cJ0_charAt_5068e 15 = .ok (.ireturn, 1) := by decide +kernel
theorem dJ0_charAt_5068e_16 : decode cJ0_charAt_5068e 16 = .ok (.aload_n 0, 1) := by decide +kernel
theorem dJ0_charAt_5068e_17 : decode cJ0_charAt_5068e 17 = .ok (.getfield 9, 3) := by decide +kernel
theorem dJ0_charAt_5068e_20 : decode cJ0_charAt_5068e 20 = .ok (.iload_n 1, 1) := by decide +kernel
theorem dJ0_charAt_5068e_21 : decode cJ0_charAt_5068e 21 = .ok (.invokestatic 498, 3) := by decide +kernel
theorem dJ0_charAt_5068e_24 : decode cJ0_charAt_5068e 24 = .ok (.ireturn, 1) := by decide +kernel
theorem dJ0_coder_7d493_0 : decode cJ0_coder_7d493 0 = .ok (.getstatic 38, 3) := by decide +kernel
theorem dJ0_coder_7d493_3 : decode cJ0_coder_7d493 3 = .ok (.ifCond .eq 10, 3) := by decide +kernel
theorem dJ0_coder_7d493_6 : decode cJ0_coder_7d493 6 = .ok (.aload_n 0, 1) := by decide +kernel
theorem dJ0_coder_7d493_7 : decode cJ0_coder_7d493 7 = .ok (.getfield 15, 3) := by decide +kernel
theorem dJ0_coder_7d493_10 : decode cJ0_coder_7d493 10 = .ok (.goto 4, 3) := by decide +kernel
theorem dJ0_coder_7d493_13 : decode cJ0_coder_7d493 13 = .ok (.iconst 1, 1) := by decide +kernel
theorem dJ0_coder_7d493_14 : decode cJ0_coder_7d493 14 = .ok (.ireturn, 1) := by decide +kernel
theorem dJ0_isLatin1_aae02_0 : decode cJ0_isLatin1_aae02 0 = .ok (.getstatic 38, 3) := by decide +kernel
theorem dJ0_isLatin1_aae02_3 : decode cJ0_isLatin1_aae02 3 = .ok (.ifCond .eq 14, 3) := by decide +kernel
theorem dJ0_isLatin1_aae02_6 : decode cJ0_isLatin1_aae02 6 = .ok (.aload_n 0, 1) := by decide +kernel
theorem dJ0_isLatin1_aae02_7 : decode cJ0_isLatin1_aae02 7 = .ok (.getfield 15, 3) := by decide +kernel
theorem dJ0_isLatin1_aae02_10 : decode cJ0_isLatin1_aae02 10 = .ok (.ifCond .ne 7, 3) := by decide +kernel
theorem dJ0_isLatin1_aae02_13 : decode cJ0_isLatin1_aae02 13 = .ok (.iconst 1, 1) := by decide +kernel
theorem dJ0_isLatin1_aae02_14 : decode cJ0_isLatin1_aae02 14 = .ok (.goto 4, 3) := by decide +kernel
theorem dJ0_isLatin1_aae02_17 : decode cJ0_isLatin1_aae02 17 = .ok (.iconst 0, 1) := by decide +kernel
theorem dJ0_isLatin1_aae02_18 : decode cJ0_isLatin1_aae02 18 = .ok (.ireturn, 1) := by decide +kernel
theorem dJ0_checkIndex_df160_0 : decode cJ0_checkIndex_df160 0 = .ok (.iload_n 0, 1) := by decide +kernel
theorem dJ0_checkIndex_df160_1 : decode cJ0_checkIndex_df160 1 = .ok (.iload_n 1, 1) := by decide +kernel
theorem dJ0_checkIndex_df160_2 : decode cJ0_checkIndex_df160 2 = .ok (.getstatic 1053, 3) := by decide +kernel
theorem dJ0_checkIndex_df160_5 : decode cJ0_checkIndex_df160 5 = .ok (.invokestatic 1059, 3) := by decide +kernel
theorem dJ0_checkIndex_df160_8 : decode cJ0_checkIndex_df160 8 = .ok (.pop, 1) := by decide +kernel
theorem dJ0_checkIndex_df160_9 : decode cJ0_checkIndex_df160 9 = .ok (.return_, 1) := by decide +kernel
theorem dJ1_charAt_3b067_0 : decode cJ1_charAt_3b067 0 = .ok (.iload_n 1, 1) := by decide +kernel
theorem dJ1_charAt_3b067_1 : decode cJ1_charAt_3b067 1 = .ok (.aload_n 0, 1) := by decide +kernel
theorem dJ1_charAt_3b067_2 : decode cJ1_charAt_3b067 2 = .ok (.arraylength, 1) := by decide +kernel
theorem dJ1_charAt_3b067_3 : decode cJ1_charAt_3b067 3 = .ok (.invokestatic 9, 3) := by decide +kernel
theorem dJ1_charAt_3b067_6 : decode cJ1_charAt_3b067 6 = .ok (.aload_n 0, 1) := by decide +kernel
theorem dJ1_charAt_3b067_7 : decode cJ1_charAt_3b067 7 = .ok (.iload_n 1, 1) := by decide +kernel
theorem dJ1_charAt_3b067_8 : decode cJ1_charAt_3b067 8 = .ok (.baload, 1) := by decide +kernel
theorem dJ1_charAt_3b067_9 : decode cJ1_charAt_3b067 9 = .ok (.sipush 255, 3) := by decide +kernel
theorem dJ1_charAt_3b067_12 : decode cJ1_charAt_3b067 12 = .ok (.iand, 1) := by decide +kernel
theorem dJ1_charAt_3b067_13 : decode cJ1_charAt_3b067 13 = .ok (.i2c, 1) := by decide +kernel
theorem dJ1_charAt_3b067_14 : decode cJ1_charAt_3b067 14 = .ok (.ireturn, 1) := by decide +kernel
theorem dJ2_getChar_3b067_0 : decode cJ2_getChar_3b067 0 = .ok (.getstatic 44, 3) := by decide +kernel
theorem dJ2_getChar_3b067_3 : decode cJ2_getChar_3b067 3 = .ok (.ifCond .ne 25, 3) := by decide +kernel
theorem dJ2_getChar_3b067_6 : decode cJ2_getChar_3b067 6 = .ok (.iload_n 1, 1) := by decide +kernel
theorem dJ2_getChar_3b067_7 : decode cJ2_getChar_3b067 7 = .ok (.ifCond .lt 11, 3) := by decide +kernel
theorem dJ2_getChar_3b067_10 : decode cJ2_getChar_3b067 10 = .ok (.iload_n 1, 1) := by decide +kernel
theorem dJ2_getChar_3b067_11 : decode cJ2_getChar_3b067 11 = .ok (.aload_n 0, 1) := by decide +kernel
theorem dJ2_getChar_3b067_12 : decode cJ2_getChar_3b067 12 = .ok (.invokestatic 48, 3) := by decide +kernel
theorem dJ2_getChar_3b067_15 : decode cJ2_getChar_3b067 15 = .ok (.if_icmp .lt 13, 3) := by decide +kernel
theorem dJ2_getChar_3b067_18 : decode cJ2_getChar_3b067 18 = .ok (.new 52, 3) := by decide +kernel
theorem dJ2_getChar_3b067_21 : decode cJ2_getChar_3b067 21 = .ok (.dup, 1) := by decide +kernel
theorem dJ2_getChar_3b067_22 : decode cJ2_getChar_3b067 22 = .ok (.ldc 54, 2) := by decide +kernel
theorem dJ2_getChar_3b067_24 : decode cJ2_getChar_3b067 24 = .ok (.invokespecial 56, 3) := by decide +kernel
theorem dJ2_getChar_3b067_27 : decode cJ2_getChar_3b067 27 = .ok (.athrow, 1) := by decide +kernel
theorem dJ2_getChar_3b067_28 : decode cJ2_getChar_3b067 28 = .ok (.iload_n 1, 1) := by decide +kernel
theorem dJ2_getChar_3b067_29 : decode cJ2_getChar_3b067 29 = .ok (.iconst 1, 1) := by decide +kernel
theorem dJ2_getChar_3b067_30 : decode cJ2_getChar_3b067 30 = .ok (.ishl, 1) := by decide +kernel
theorem dJ2_getChar_3b067_31 : decode cJ2_getChar_3b067 31 = .ok (.istore_n 1, 1) := by decide +kernel
theorem dJ2_getChar_3b067_32 : decode cJ2_getChar_3b067 32 = .ok (.aload_n 0, 1) := by decide +kernel
theorem dJ2_getChar_3b067_33 : decode cJ2_getChar_3b067 33 = .ok (.iload_n 1, 1) := by decide +kernel
theorem dJ2_getChar_3b067_34 : decode cJ2_getChar_3b067 34 = .ok (.iinc 1 1, 3) := by decide +kernel
theorem dJ2_getChar_3b067_37 : decode cJ2_getChar_3b067 37 = .ok (.baload, 1) := by decide +kernel
theorem dJ2_getChar_3b067_38 : decode cJ2_getChar_3b067 38 = .ok (.sipush 255, 3) := by decide +kernel
theorem dJ2_getChar_3b067_41 : decode cJ2_getChar_3b067 41 = .ok (.iand, 1) := by decide +kernel
theorem dJ2_getChar_3b067_42 : decode cJ2_getChar_3b067 42 = .ok (.getstatic 59, 3) := by decide +kernel
theorem dJ2_getChar_3b067_45 : decode cJ2_getChar_3b067 45 = .ok (.ishl, 1) := by decide +kernel
theorem dJ2_getChar_3b067_46 : decode cJ2_getChar_3b067 46 = .ok (.aload_n 0, 1) := by decide +kernel
theorem dJ2_getChar_3b067_47 : decode cJ2_getChar_3b067 47 = .ok (.iload_n 1, 1) := by decide +kernel
theorem dJ2_getChar_3b067_48 : decode cJ2_getChar_3b067 48 = .ok (.baload, 1) := by decide +kernel
theorem dJ2_getChar_3b067_49 : decode cJ2_getChar_3b067 49 = .ok (.sipush 255, 3) := by decide +kernel
theorem dJ2_getChar_3b067_52 : decode cJ2_getChar_3b067 52 = .ok (.iand, 1) := by decide +kernel
theorem dJ2_getChar_3b067_53 : decode cJ2_getChar_3b067 53 = .ok (.getstatic 63, 3) := by decide +kernel
theorem dJ2_getChar_3b067_56 : decode cJ2_getChar_3b067 56 = .ok (.ishl, 1) := by decide +kernel
theorem dJ2_getChar_3b067_57 : decode cJ2_getChar_3b067 57 = .ok (.ior, 1) := by decide +kernel
theorem dJ2_getChar_3b067_58 : decode cJ2_getChar_3b067 58 = .ok (.i2c, 1) := by decide +kernel
theorem dJ2_getChar_3b067_59 : decode cJ2_getChar_3b067 59 = .ok (.ireturn, 1) := by decide +kernel
theorem dJ2_length_9d52b_0 : decode cJ2_length_9d52b 0 = .ok (.aload_n 0, 1) := by decide +kernel
theorem dJ2_length_9d52b_1 : decode cJ2_length_9d52b 1 = .ok (.arraylength, 1) := by decide +kernel
theorem dJ2_length_9d52b_2 : decode cJ2_length_9d52b 2 = .ok (.iconst 1, 1) := by decide +kernel
theorem dJ2_length_9d52b_3 : decode cJ2_length_9d52b 3 = .ok (.ishr, 1) := by decide +kernel
theorem dJ2_length_9d52b_4 : decode cJ2_length_9d52b 4 = .ok (.ireturn, 1) := by decide +kernel
theorem dJ2_charAt_3b067_0 : decode cJ2_charAt_3b067 0 = .ok (.iload_n 1, 1) := by decide +kernel
theorem dJ2_charAt_3b067_1 : decode cJ2_charAt_3b067 1 = .ok (.aload_n 0, 1) := by decide +kernel
theorem dJ2_charAt_3b067_2 : decode cJ2_charAt_3b067 2 = .ok (.invokestatic 67, 3) := by decide +kernel
theorem dJ2_charAt_3b067_5 : decode cJ2_charAt_3b067 5 = .ok (.aload_n 0, 1) := by decide +kernel
theorem dJ2_charAt_3b067_6 : decode cJ2_charAt_3b067 6 = .ok (.iload_n 1, 1) := by decide +kernel
theorem dJ2_charAt_3b067_7 : decode cJ2_charAt_3b067 7 = .ok (.invokestatic 71, 3) := by decide +kernel
theorem dJ2_charAt_3b067_10 : decode cJ2_charAt_3b067 10 = .ok (.ireturn, 1) := by decide +kernel
theorem dJ2_checkIndex_2214a_0 : decode cJ2_checkIndex_2214a 0 = .ok (.iload_n 0, 1) := by decide +kernel
theorem dJ2_checkIndex_2214a_1 : decode cJ2_checkIndex_2214a 1 = .ok (.aload_n 1, 1) := by decide +kernel
theorem dJ2_checkIndex_2214a_2 : decode cJ2_checkIndex_2214a 2 = .ok (.invokestatic 48, 3) := by decide +kernel
theorem dJ2_checkIndex_2214a_5 : decode cJ2_checkIndex_2214a 5 = .ok (.invokestatic 414, 3) := by decide +kernel
theorem dJ2_checkIndex_2214a_8 : decode cJ2_checkIndex_2214a 8 = .ok (.return_, 1) := by decide +kernel
theorem dJ7_fill_53178_0 : decode cJ7_fill_53178 0 = .ok (.iconst 0, 1) := by decide +kernel
theorem dJ7_fill_53178_1 : decode cJ7_fill_53178 1 = .ok (.istore_n 2, 1) := by decide +kernel
theorem dJ7_fill_53178_2 : decode cJ7_fill_53178 2 = .ok (.aload_n 0, 1) := by decide +kernel
theorem dJ7_fill_53178_3 : decode cJ7_fill_53178 3 = .ok (.arraylength, 1) := by decide +kernel
theorem dJ7_fill_53178_4 : decode cJ7_fill_53178 4 = .ok (.istore_n 3, 1) := by decide +kernel
theorem dJ7_fill_53178_5 : decode cJ7_fill_53178 5 = .ok (.iload_n 2, 1) := by decide +kernel
theorem dJ7_fill_53178_6 : decode cJ7_fill_53178 6 = .ok (.iload_n 3, 1) := by decide +kernel
theorem dJ7_fill_53178_7 : decode cJ7_fill_53178 7 = .ok (.if_icmp .ge 13, 3) := by decide +kernel
theorem dJ7_fill_53178_10 : decode cJ7_fill_53178 10 = .ok (.aload_n 0, 1) := by decide +kernel
theorem dJ7_fill_53178_11 : decode cJ7_fill_53178 11 = .ok (.iload_n 2, 1) := by decide +kernel
theorem dJ7_fill_53178_12 : decode cJ7_fill_53178 12 = .ok (.iload_n 1, 1) := by decide +kernel
theorem dJ7_fill_53178_13 : decode cJ7_fill_53178 13 = .ok (.iastore, 1) := by decide +kernel
theorem dJ7_fill_53178_14 : decode cJ7_fill_53178 14 = .ok (.iinc 2 1, 3) := by decide +kernel
theorem dJ7_fill_53178_17 : decode cJ7_fill_53178 17 = .ok (.goto (-12), 3) := by decide +kernel
theorem dJ7_fill_53178_20 : decode cJ7_fill_53178 20 = .ok (.return_, 1) := by decide +kernel
theorem dJ3_checkIndex_8e157_0 : decode cJ3_checkIndex_8e157 0 = .ok (.iload_n 0, 1) := by decide +kernel
theorem dJ3_checkIndex_8e157_1 : decode cJ3_checkIndex_8e157 1 = .ok (.ifCond .lt 8, 3) := by decide +kernel
theorem dJ3_checkIndex_8e157_4 : decode cJ3_checkIndex_8e157 4 = .ok (.iload_n 0, 1) := by decide +kernel
theorem dJ3_checkIndex_8e157_5 : decode cJ3_checkIndex_8e157 5 = .ok (.iload_n 1, 1) := by decide +kernel
theorem dJ3_checkIndex_8e157_6 : decode cJ3_checkIndex_8e157 6 = .ok (.if_icmp .lt 10, 3) := by decide +kernel
theorem dJ3_checkIndex_8e157_9 : decode cJ3_checkIndex_8e157 9 = .ok (.aload_n 2, 1) := by decide +kernel
theorem dJ3_checkIndex_8e157_10 : decode cJ3_checkIndex_8e157 10 = .ok (.iload_n 0, 1) := by decide +kernel
theorem dJ3_checkIndex_8e157_11 : decode cJ3_checkIndex_8e157 11 = .ok (.iload_n 1, 1) := by decide +kernel
theorem dJ3_checkIndex_8e157_12 : decode cJ3_checkIndex_8e157 12 = .ok (.invokestatic 95, 3) := by decide +kernel
theorem dJ3_checkIndex_8e157_15 : decode cJ3_checkIndex_8e157 15 = .ok (.athrow, 1) := by decide +kernel
theorem dJ3_checkIndex_8e157_16 : decode cJ3_checkIndex_8e157 16 = .ok (.iload_n 0, 1) := by decide +kernel
theorem dJ3_checkIndex_8e157_17 : decode cJ3_checkIndex_8e157 17 = .ok (.ireturn, 1) := by decide +kernel
