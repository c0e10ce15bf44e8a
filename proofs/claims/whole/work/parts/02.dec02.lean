theorem dX5_lands_16 : decode cX5_lands 16 = .ok (.if_icmp .ge 19, 3) := by decide +kernel
theorem dX5_lands_19 : decode cX5_lands 19 = .ok (.iconst 3, 1) := by decide +kernel
theorem dX5_lands_20 : decode cX5_lands 20 = .ok (.iload_n 3, 1) := by decide +kernel
theorem dX5_lands_21 : decode cX5_lands 21 = .ok (.isub, 1) := by decide +kernel
theorem dX5_lands_22 : decode cX5_lands 22 = .ok (.istore 5, 2) := by decide +kernel
theorem dX5_lands_24 : decode cX5_lands 24 = .ok (.iload_n 2, 1) := by decide +kernel
theorem dX5_lands_25 : decode cX5_lands 25 = .ok (.istore_n 3, 1) := by decide +kernel
theorem dX5_lands_26 : decode cX5_lands 26 = .ok (.iload 5, 2) := by decide +kernel
theorem dX5_lands_28 : decode cX5_lands 28 = .ok (.istore_n 2, 1) := by decide +kernel
theorem dX5_lands_29 : decode cX5_lands 29 = .ok (.iinc 4 1, 3) := by decide +kernel
theorem dX5_lands_32 : decode cX5_lands 32 = .ok (.goto (-19), 3) := by decide +kernel
theorem dX5_lands_35 : decode cX5_lands 35 = .ok (.iconst 4, 1) := by decide +kernel
theorem dX5_lands_36 : decode cX5_lands 36 = .ok (.iload_n 3, 1) := by decide +kernel
theorem dX5_lands_37 : decode cX5_lands 37 = .ok (.imul, 1) := by decide +kernel
theorem dX5_lands_38 : decode cX5_lands 38 = .ok (.iload_n 2, 1) := by decide +kernel
theorem dX5_lands_39 : decode cX5_lands 39 = .ok (.iadd, 1) := by decide +kernel
theorem dX5_lands_40 : decode cX5_lands 40 = .ok (.ireturn, 1) := by decide +kernel
theorem dX5_looksOf_0 : decode cX5_looksOf 0 = .ok (.iconst 0, 1) := by decide +kernel
theorem dX5_looksOf_1 : decode cX5_looksOf 1 = .ok (.istore_n 3, 1) := by decide +kernel
theorem dX5_looksOf_2 : decode cX5_looksOf 2 = .ok (.iconst 0, 1) := by decide +kernel
theorem dX5_looksOf_3 : decode cX5_looksOf 3 = .ok (.istore 4, 2) := by decide +kernel
theorem dX5_looksOf_5 : decode cX5_looksOf 5 = .ok (.iload 4, 2) := by decide +kernel
theorem dX5_looksOf_7 : decode cX5_looksOf 7 = .ok (.bipush 16, 2) := by decide +kernel
theorem dX5_looksOf_9 : decode cX5_looksOf 9 = .ok (.if_icmp .ge 41, 3) := by decide +kernel
theorem dX5_looksOf_12 : decode cX5_looksOf 12 = .ok (.iload_n 3, 1) := by decide +kernel
theorem dX5_looksOf_13 : decode cX5_looksOf 13 = .ok (.aload_n 0, 1) := by decide +kernel
theorem dX5_looksOf_14 : decode cX5_looksOf 14 = .ok (.getfield 7, 3) := by decide +kernel
theorem dX5_looksOf_17 : decode cX5_looksOf 17 = .ok (.bipush 65, 2) := by decide +kernel
theorem dX5_looksOf_19 : decode cX5_looksOf 19 = .ok (.iload_n 1, 1) := by decide +kernel
theorem dX5_looksOf_20 : decode cX5_looksOf 20 = .ok (.iadd, 1) := by decide +kernel
theorem dX5_looksOf_21 : decode cX5_looksOf 21 = .ok (.iaload, 1) := by decide +kernel
theorem dX5_looksOf_22 : decode cX5_looksOf 22 = .ok (.iload 4, 2) := by decide +kernel
theorem dX5_looksOf_24 : decode cX5_looksOf 24 = .ok (.invokestatic 72, 3) := by decide +kernel
theorem dX5_looksOf_27 : decode cX5_looksOf 27 = .ok (.ifCond .eq 14, 3) := by decide +kernel
theorem dX5_looksOf_30 : decode cX5_looksOf 30 = .ok (.iconst 1, 1) := by decide +kernel
theorem dX5_looksOf_31 : decode cX5_looksOf 31 = .ok (.iload 4, 2) := by decide +kernel
theorem dX5_looksOf_33 : decode cX5_looksOf 33 = .ok (.iload_n 2, 1) := by decide +kernel
theorem dX5_looksOf_34 : decode cX5_looksOf 34 = .ok (.invokestatic 75, 3) := by decide +kernel
theorem dX5_looksOf_37 : decode cX5_looksOf 37 = .ok (.ishl, 1) := by decide +kernel
theorem dX5_looksOf_38 : decode cX5_looksOf 38 = .ok (.goto 4, 3) := by decide +kernel
theorem dX5_looksOf_41 : decode cX5_looksOf 41 = .ok (.iconst 0, 1) := by decide +kernel
theorem dX5_looksOf_42 : decode cX5_looksOf 42 = .ok (.ior, 1) := by decide +kernel
theorem dX5_looksOf_43 : decode cX5_looksOf 43 = .ok (.istore_n 3, 1) := by decide +kernel
theorem dX5_looksOf_44 : decode cX5_looksOf 44 = .ok (.iinc 4 1, 3) := by decide +kernel
theorem dX5_looksOf_47 : decode cX5_looksOf 47 = .ok (.goto (-42), 3) := by decide +kernel
theorem dX5_looksOf_50 : decode cX5_looksOf 50 = .ok (.iload_n 3, 1) := by decide +kernel
theorem dX5_looksOf_51 : decode cX5_looksOf 51 = .ok (.ireturn, 1) := by decide +kernel
theorem dX5_plain_0 : decode cX5_plain 0 = .ok (.iload_n 0, 1) := by decide +kernel
theorem dX5_plain_1 : decode cX5_plain 1 = .ok (.bipush 9, 2) := by decide +kernel
theorem dX5_plain_3 : decode cX5_plain 3 = .ok (.if_icmp .le 8, 3) := by decide +kernel
theorem dX5_plain_6 : decode cX5_plain 6 = .ok (.bipush 9, 2) := by decide +kernel
theorem dX5_plain_8 : decode cX5_plain 8 = .ok (.goto 4, 3) := by decide +kernel
theorem dX5_plain_11 : decode cX5_plain 11 = .ok (.iload_n 0, 1) := by decide +kernel
theorem dX5_plain_12 : decode cX5_plain 12 = .ok (.ireturn, 1) := by decide +kernel
theorem dX5_darkBy_0 : decode cX5_darkBy 0 = .ok (.iload_n 1, 1) := by decide +kernel
theorem dX5_darkBy_1 : decode cX5_darkBy 1 = .ok (.invokestatic 79, 3) := by decide +kernel
theorem dX5_darkBy_4 : decode cX5_darkBy 4 = .ok (.istore_n 2, 1) := by decide +kernel
theorem dX5_darkBy_5 : decode cX5_darkBy 5 = .ok (.iload_n 0, 1) := by decide +kernel
theorem dX5_darkBy_6 : decode cX5_darkBy 6 = .ok (.ifCond .ne 5, 3) := by decide +kernel
theorem dX5_darkBy_9 : decode cX5_darkBy 9 = .ok (.iload_n 2, 1) := by decide +kernel
theorem dX5_darkBy_10 : decode cX5_darkBy 10 = .ok (.ireturn, 1) := by decide +kernel
theorem dX5_darkBy_11 : decode cX5_darkBy 11 = .ok (.iload_n 0, 1) := by decide +kernel
theorem dX5_darkBy_12 : decode cX5_darkBy 12 = .ok (.iconst 2, 1) := by decide +kernel
theorem dX5_darkBy_13 : decode cX5_darkBy 13 = .ok (.if_icmp .eq 8, 3) := by decide +kernel
theorem dX5_darkBy_16 : decode cX5_darkBy 16 = .ok (.iload_n 0, 1) := by decide +kernel
theorem dX5_darkBy_17 : decode cX5_darkBy 17 = .ok (.iconst 4, 1) := by decide +kernel
theorem dX5_darkBy_18 : decode cX5_darkBy 18 = .ok (.if_icmp .ne 9, 3) := by decide +kernel
theorem dX5_darkBy_21 : decode cX5_darkBy 21 = .ok (.iload_n 2, 1) := by decide +kernel
theorem dX5_darkBy_22 : decode cX5_darkBy 22 = .ok (.iconst 1, 1) := by decide +kernel
theorem dX5_darkBy_23 : decode cX5_darkBy 23 = .ok (.iadd, 1) := by decide +kernel
theorem dX5_darkBy_24 : decode cX5_darkBy 24 = .ok (.iconst 2, 1) := by decide +kernel
theorem dX5_darkBy_25 : decode cX5_darkBy 25 = .ok (.idiv, 1) := by decide +kernel
theorem dX5_darkBy_26 : decode cX5_darkBy 26 = .ok (.ireturn, 1) := by decide +kernel
theorem dX5_darkBy_27 : decode cX5_darkBy 27 = .ok (.iload_n 2, 1) := by decide +kernel
theorem dX5_darkBy_28 : decode cX5_darkBy 28 = .ok (.ifCond .ne 7, 3) := by decide +kernel
theorem dX5_darkBy_31 : decode cX5_darkBy 31 = .ok (.iconst 0, 1) := by decide +kernel
theorem dX5_darkBy_32 : decode cX5_darkBy 32 = .ok (.goto 19, 3) := by decide +kernel
theorem dX5_darkBy_35 : decode cX5_darkBy 35 = .ok (.iload_n 2, 1) := by decide +kernel
theorem dX5_darkBy_36 : decode cX5_darkBy 36 = .ok (.iconst 2, 1) := by decide +kernel
theorem dX5_darkBy_37 : decode cX5_darkBy 37 = .ok (.iadd, 1) := by decide +kernel
theorem dX5_darkBy_38 : decode cX5_darkBy 38 = .ok (.bipush 9, 2) := by decide +kernel
theorem dX5_darkBy_40 : decode cX5_darkBy 40 = .ok (.if_icmp .le 8, 3) := by decide +kernel
theorem dX5_darkBy_43 : decode cX5_darkBy 43 = .ok (.bipush 9, 2) := by decide +kernel
theorem dX5_darkBy_45 : decode cX5_darkBy 45 = .ok (.goto 6, 3) := by decide +kernel
theorem dX5_darkBy_48 : decode cX5_darkBy 48 = .ok (.iload_n 2, 1) := by decide +kernel
theorem dX5_darkBy_49 : decode cX5_darkBy 49 = .ok (.iconst 2, 1) := by decide +kernel
theorem dX5_darkBy_50 : decode cX5_darkBy 50 = .ok (.iadd, 1) := by decide +kernel
theorem dX5_darkBy_51 : decode cX5_darkBy 51 = .ok (.istore_n 3, 1) := by decide +kernel
theorem dX5_darkBy_52 : decode cX5_darkBy 52 = .ok (.iload_n 0, 1) := by decide +kernel
theorem dX5_darkBy_53 : decode cX5_darkBy 53 = .ok (.iconst 5, 1) := by decide +kernel
theorem dX5_darkBy_54 : decode cX5_darkBy 54 = .ok (.if_icmp .eq 7, 3) := by decide +kernel
theorem dX5_darkBy_57 : decode cX5_darkBy 57 = .ok (.iload_n 3, 1) := by decide +kernel
theorem dX5_darkBy_58 : decode cX5_darkBy 58 = .ok (.goto 14, 3) := by decide +kernel
theorem dX5_darkBy_61 : decode cX5_darkBy 61 = .ok (.iload_n 3, 1) := by decide +kernel
theorem dX5_darkBy_62 : decode cX5_darkBy 62 = .ok (.ifCond .ne 7, 3) := by decide +kernel
theorem dX5_darkBy_65 : decode cX5_darkBy 65 = .ok (.iconst 0, 1) := by decide +kernel
theorem dX5_darkBy_66 : decode cX5_darkBy 66 = .ok (.goto 6, 3) := by decide +kernel
theorem dX5_darkBy_69 : decode cX5_darkBy 69 = .ok (.iload_n 3, 1) := by decide +kernel
theorem dX5_darkBy_70 : decode cX5_darkBy 70 = .ok (.iconst 1, 1) := by decide +kernel
theorem dX5_darkBy_71 : decode cX5_darkBy 71 = .ok (.isub, 1) := by decide +kernel
theorem dX5_darkBy_72 : decode cX5_darkBy 72 = .ok (.ireturn, 1) := by decide +kernel
theorem dX5_takesBy_0 : decode cX5_takesBy 0 = .ok (.iload_n 0, 1) := by decide +kernel
theorem dX5_takesBy_1 : decode cX5_takesBy 1 = .ok (.iconst 1, 1) := by decide +kernel
theorem dX5_takesBy_2 : decode cX5_takesBy 2 = .ok (.if_icmp .eq 13, 3) := by decide +kernel
theorem dX5_takesBy_5 : decode cX5_takesBy 5 = .ok (.iload_n 0, 1) := by decide +kernel
theorem dX5_takesBy_6 : decode cX5_takesBy 6 = .ok (.iconst 3, 1) := by decide +kernel
theorem dX5_takesBy_7 : decode cX5_takesBy 7 = .ok (.if_icmp .eq 8, 3) := by decide +kernel
theorem dX5_takesBy_10 : decode cX5_takesBy 10 = .ok (.iload_n 0, 1) := by decide +kernel
theorem dX5_takesBy_11 : decode cX5_takesBy 11 = .ok (.iconst 5, 1) := by decide +kernel
theorem dX5_takesBy_12 : decode cX5_takesBy 12 = .ok (.if_icmp .ne 7, 3) := by decide +kernel
theorem dX5_takesBy_15 : decode cX5_takesBy 15 = .ok (.iconst 2, 1) := by decide +kernel
theorem dX5_takesBy_16 : decode cX5_takesBy 16 = .ok (.goto 4, 3) := by decide +kernel
theorem dX5_takesBy_19 : decode cX5_takesBy 19 = .ok (.iconst 1, 1) := by decide +kernel
theorem dX5_takesBy_20 : decode cX5_takesBy 20 = .ok (.istore_n 2, 1) := by decide +kernel
theorem dX5_takesBy_21 : decode cX5_takesBy 21 = .ok (.iload_n 2, 1) := by decide +kernel
theorem dX5_takesBy_22 : decode cX5_takesBy 22 = .ok (.iload_n 1, 1) := by decide +kernel
theorem dX5_takesBy_23 : decode cX5_takesBy 23 = .ok (.if_icmp .le 7, 3) := by decide +kernel
theorem dX5_takesBy_26 : decode cX5_takesBy 26 = .ok (.iload_n 1, 1) := by decide +kernel
theorem dX5_takesBy_27 : decode cX5_takesBy 27 = .ok (.goto 4, 3) := by decide +kernel
theorem dX5_takesBy_30 : decode cX5_takesBy 30 = .ok (.iload_n 2, 1) := by decide +kernel
theorem dX5_takesBy_31 : decode cX5_takesBy 31 = .ok (.ireturn, 1) := by decide +kernel
theorem dX5_layLooks_0 : decode cX5_layLooks 0 = .ok (.iconst 0, 1) := by decide +kernel
theorem dX5_layLooks_1 : decode cX5_layLooks 1 = .ok (.istore 6, 2) := by decide +kernel
theorem dX5_layLooks_3 : decode cX5_layLooks 3 = .ok (.iload 6, 2) := by decide +kernel
theorem dX5_layLooks_5 : decode cX5_layLooks 5 = .ok (.bipush 16, 2) := by decide +kernel
theorem dX5_layLooks_7 : decode cX5_layLooks 7 = .ok (.if_icmp .ge 105, 3) := by decide +kernel
theorem dX5_layLooks_10 : decode cX5_layLooks 10 = .ok (.iload_n 2, 1) := by decide +kernel
theorem dX5_layLooks_11 : decode cX5_layLooks 11 = .ok (.iload 6, 2) := by decide +kernel
theorem dX5_layLooks_13 : decode cX5_layLooks 13 = .ok (.iconst 4, 1) := by decide +kernel
theorem dX5_layLooks_14 : decode cX5_layLooks 14 = .ok (.irem, 1) := by decide +kernel
theorem dX5_layLooks_15 : decode cX5_layLooks 15 = .ok (.iadd, 1) := by decide +kernel
theorem dX5_layLooks_16 : decode cX5_layLooks 16 = .ok (.istore 7, 2) := by decide +kernel
theorem dX5_layLooks_18 : decode cX5_layLooks 18 = .ok (.iload_n 3, 1) := by decide +kernel
theorem dX5_layLooks_19 : decode cX5_layLooks 19 = .ok (.iload 6, 2) := by decide +kernel
theorem dX5_layLooks_21 : decode cX5_layLooks 21 = .ok (.iconst 4, 1) := by decide +kernel
theorem dX5_layLooks_22 : decode cX5_layLooks 22 = .ok (.idiv, 1) := by decide +kernel
theorem dX5_layLooks_23 : decode cX5_layLooks 23 = .ok (.iadd, 1) := by decide +kernel
theorem dX5_layLooks_24 : decode cX5_layLooks 24 = .ok (.istore 8, 2) := by decide +kernel
theorem dX5_layLooks_26 : decode cX5_layLooks 26 = .ok (.iload_n 1, 1) := by decide +kernel
theorem dX5_layLooks_27 : decode cX5_layLooks 27 = .ok (.iload 6, 2) := by decide +kernel
theorem dX5_layLooks_29 : decode cX5_layLooks 29 = .ok (.invokestatic 72, 3) := by decide +kernel
theorem dX5_layLooks_32 : decode cX5_layLooks 32 = .ok (.ifCond .eq 33, 3) := by decide +kernel
theorem dX5_layLooks_35 : decode cX5_layLooks 35 = .ok (.iload 7, 2) := by decide +kernel
theorem dX5_layLooks_37 : decode cX5_layLooks 37 = .ok (.iload 8, 2) := by decide +kernel
theorem dX5_layLooks_39 : decode cX5_layLooks 39 = .ok (.invokestatic 66, 3) := by decide +kernel
theorem dX5_layLooks_42 : decode cX5_layLooks 42 = .ok (.ifCond .eq 23, 3) := by decide +kernel
theorem dX5_layLooks_45 : decode cX5_layLooks 45 = .ok (.iload 5, 2) := by decide +kernel
theorem dX5_layLooks_47 : decode cX5_layLooks 47 = .ok (.ifCond .eq 14, 3) := by decide +kernel
theorem dX5_layLooks_50 : decode cX5_layLooks 50 = .ok (.iload 7, 2) := by decide +kernel
theorem dX5_layLooks_52 : decode cX5_layLooks 52 = .ok (.iload 8, 2) := by decide +kernel
theorem dX5_layLooks_54 : decode cX5_layLooks 54 = .ok (.iadd, 1) := by decide +kernel
theorem dX5_layLooks_55 : decode cX5_layLooks 55 = .ok (.iconst 2, 1) := by decide +kernel
theorem dX5_layLooks_56 : decode cX5_layLooks 56 = .ok (.irem, 1) := by decide +kernel
theorem dX5_layLooks_57 : decode cX5_layLooks 57 = .ok (.iconst 1, 1) := by decide +kernel
theorem dX5_layLooks_58 : decode cX5_layLooks 58 = .ok (.if_icmp .eq 7, 3) := by decide +kernel
theorem dX5_layLooks_61 : decode cX5_layLooks 61 = .ok (.iconst 1, 1) := by decide +kernel
theorem dX5_layLooks_62 : decode cX5_layLooks 62 = .ok (.goto 4, 3) := by decide +kernel
theorem dX5_layLooks_65 : decode cX5_layLooks 65 = .ok (.iconst 0, 1) := by decide +kernel
theorem dX5_layLooks_66 : decode cX5_layLooks 66 = .ok (.istore 9, 2) := by decide +kernel
theorem dX5_layLooks_68 : decode cX5_layLooks 68 = .ok (.iload 9, 2) := by decide +kernel
theorem dX5_layLooks_70 : decode cX5_layLooks 70 = .ok (.ifCond .eq 36, 3) := by decide +kernel
theorem dX5_layLooks_73 : decode cX5_layLooks 73 = .ok (.aload_n 0, 1) := by decide +kernel
theorem dX5_layLooks_74 : decode cX5_layLooks 74 = .ok (.getfield 20, 3) := by decide +kernel
theorem dX5_layLooks_77 : decode cX5_layLooks 77 = .ok (.bipush 8, 2) := by decide +kernel
theorem dX5_layLooks_79 : decode cX5_layLooks 79 = .ok (.iload 8, 2) := by decide +kernel
theorem dX5_layLooks_81 : decode cX5_layLooks 81 = .ok (.imul, 1) := by decide +kernel
theorem dX5_layLooks_82 : decode cX5_layLooks 82 = .ok (.iload 7, 2) := by decide +kernel
theorem dX5_layLooks_84 : decode cX5_layLooks 84 = .ok (.iadd, 1) := by decide +kernel
theorem dX5_layLooks_85 : decode cX5_layLooks 85 = .ok (.iaload, 1) := by decide +kernel
theorem dX5_layLooks_86 : decode cX5_layLooks 86 = .ok (.iload 4, 2) := by decide +kernel
theorem dX5_layLooks_88 : decode cX5_layLooks 88 = .ok (.if_icmp .ge 18, 3) := by decide +kernel
theorem dX5_layLooks_91 : decode cX5_layLooks 91 = .ok (.aload_n 0, 1) := by decide +kernel
theorem dX5_layLooks_92 : decode cX5_layLooks 92 = .ok (.getfield 20, 3) := by decide +kernel
theorem dX5_layLooks_95 : decode cX5_layLooks 95 = .ok (.bipush 8, 2) := by decide +kernel
theorem dX5_layLooks_97 : decode cX5_layLooks 97 = .ok (.iload 8, 2) := by decide +kernel
theorem dX5_layLooks_99 : decode cX5_layLooks 99 = .ok (.imul, 1) := by decide +kernel
theorem dX5_layLooks_100 : decode cX5_layLooks 100 = .ok (.iload 7, 2) := by decide +kernel
theorem dX5_layLooks_102 : decode cX5_layLooks 102 = .ok (.iadd, 1) := by decide +kernel
theorem dX5_layLooks_103 : decode cX5_layLooks 103 = .ok (.iload 4, 2) := by decide +kernel
theorem dX5_layLooks_105 : decode cX5_layLooks 105 = .ok (.iastore, 1) := by decide +kernel
theorem dX5_layLooks_106 : decode cX5_layLooks 106 = .ok (.iinc 6 1, 3) := by decide +kernel
theorem dX5_layLooks_109 : decode cX5_layLooks 109 = .ok (.goto (-106), 3) := by decide +kernel
theorem dX5_layLooks_112 : decode cX5_layLooks 112 = .ok (.return_, 1) := by decide +kernel
theorem dX5_inkBy_0 : decode cX5_inkBy 0 = .ok (.iconst 0, 1) := by decide +kernel
theorem dX5_inkBy_1 : decode cX5_inkBy 1 = .ok (.istore 6, 2) := by decide +kernel
theorem dX5_inkBy_3 : decode cX5_inkBy 3 = .ok (.iload 6, 2) := by decide +kernel
theorem dX5_inkBy_5 : decode cX5_inkBy 5 = .ok (.bipush 64, 2) := by decide +kernel
theorem dX5_inkBy_7 : decode cX5_inkBy 7 = .ok (.if_icmp .ge 17, 3) := by decide +kernel
theorem dX5_inkBy_10 : decode cX5_inkBy 10 = .ok (.aload_n 0, 1) := by decide +kernel
theorem dX5_inkBy_11 : decode cX5_inkBy 11 = .ok (.getfield 20, 3) := by decide +kernel
theorem dX5_inkBy_14 : decode cX5_inkBy 14 = .ok (.iload 6, 2) := by decide +kernel
theorem dX5_inkBy_16 : decode cX5_inkBy 16 = .ok (.iconst 0, 1) := by decide +kernel
theorem dX5_inkBy_17 : decode cX5_inkBy 17 = .ok (.iastore, 1) := by decide +kernel
theorem dX5_inkBy_18 : decode cX5_inkBy 18 = .ok (.iinc 6 1, 3) := by decide +kernel
theorem dX5_inkBy_21 : decode cX5_inkBy 21 = .ok (.goto (-18), 3) := by decide +kernel
theorem dX5_inkBy_24 : decode cX5_inkBy 24 = .ok (.iload_n 1, 1) := by decide +kernel
theorem dX5_inkBy_25 : decode cX5_inkBy 25 = .ok (.iload 5, 2) := by decide +kernel
theorem dX5_inkBy_27 : decode cX5_inkBy 27 = .ok (.invokestatic 83, 3) := by decide +kernel
theorem dX5_inkBy_30 : decode cX5_inkBy 30 = .ok (.istore 6, 2) := by decide +kernel
theorem dX5_inkBy_32 : decode cX5_inkBy 32 = .ok (.iload_n 1, 1) := by decide +kernel
theorem dX5_inkBy_33 : decode cX5_inkBy 33 = .ok (.iconst 3, 1) := by decide +kernel
theorem dX5_inkBy_34 : decode cX5_inkBy 34 = .ok (.if_icmp .eq 8, 3) := by decide +kernel
theorem dX5_inkBy_37 : decode cX5_inkBy 37 = .ok (.iload_n 1, 1) := by decide +kernel
theorem dX5_inkBy_38 : decode cX5_inkBy 38 = .ok (.iconst 5, 1) := by decide +kernel
theorem dX5_inkBy_39 : decode cX5_inkBy 39 = .ok (.if_icmp .ne 16, 3) := by decide +kernel
theorem dX5_inkBy_42 : decode cX5_inkBy 42 = .ok (.iload 5, 2) := by decide +kernel
theorem dX5_inkBy_44 : decode cX5_inkBy 44 = .ok (.bipush 8, 2) := by decide +kernel
theorem dX5_inkBy_46 : decode cX5_inkBy 46 = .ok (.if_icmp .le 9, 3) := by decide +kernel
theorem dX5_inkBy_49 : decode cX5_inkBy 49 = .ok (.iload_n 3, 1) := by decide +kernel
theorem dX5_inkBy_50 : decode cX5_inkBy 50 = .ok (.iconst 1, 1) := by decide +kernel
theorem dX5_inkBy_51 : decode cX5_inkBy 51 = .ok (.iadd, 1) := by decide +kernel
theorem dX5_inkBy_52 : decode cX5_inkBy 52 = .ok (.goto 4, 3) := by decide +kernel
theorem dX5_inkBy_55 : decode cX5_inkBy 55 = .ok (.iload_n 3, 1) := by decide +kernel
theorem dX5_inkBy_56 : decode cX5_inkBy 56 = .ok (.istore 7, 2) := by decide +kernel
theorem dX5_inkBy_58 : decode cX5_inkBy 58 = .ok (.aload_n 0, 1) := by decide +kernel
theorem dX5_inkBy_59 : decode cX5_inkBy 59 = .ok (.iload_n 2, 1) := by decide +kernel
theorem dX5_inkBy_60 : decode cX5_inkBy 60 = .ok (.iload 7, 2) := by decide +kernel
theorem dX5_inkBy_62 : decode cX5_inkBy 62 = .ok (.iload 4, 2) := by decide +kernel
theorem dX5_inkBy_64 : decode cX5_inkBy 64 = .ok (.iload 6, 2) := by decide +kernel
theorem dX5_inkBy_66 : decode cX5_inkBy 66 = .ok (.iload_n 1, 1) := by decide +kernel
theorem dX5_inkBy_67 : decode cX5_inkBy 67 = .ok (.iconst 4, 1) := by decide +kernel
theorem dX5_inkBy_68 : decode cX5_inkBy 68 = .ok (.if_icmp .ne 13, 3) := by decide +kernel
theorem dX5_inkBy_71 : decode cX5_inkBy 71 = .ok (.iload 5, 2) := by decide +kernel
theorem dX5_inkBy_73 : decode cX5_inkBy 73 = .ok (.iconst 4, 1) := by decide +kernel
theorem dX5_inkBy_74 : decode cX5_inkBy 74 = .ok (.if_icmp .ge 7, 3) := by decide +kernel
theorem dX5_inkBy_77 : decode cX5_inkBy 77 = .ok (.iconst 1, 1) := by decide +kernel
theorem dX5_inkBy_78 : decode cX5_inkBy 78 = .ok (.goto 4, 3) := by decide +kernel
theorem dX5_inkBy_81 : decode cX5_inkBy 81 = .ok (.iconst 0, 1) := by decide +kernel
theorem dX5_inkBy_82 : decode cX5_inkBy 82 = .ok (.invokevirtual 86, 3) := by decide +kernel
theorem dX5_inkBy_85 : decode cX5_inkBy 85 = .ok (.iload_n 1, 1) := by decide +kernel
theorem dX5_inkBy_86 : decode cX5_inkBy 86 = .ok (.iconst 5, 1) := by decide +kernel
theorem dX5_inkBy_87 : decode cX5_inkBy 87 = .ok (.if_icmp .ne 19, 3) := by decide +kernel
theorem dX5_inkBy_90 : decode cX5_inkBy 90 = .ok (.aload_n 0, 1) := by decide +kernel
theorem dX5_inkBy_91 : decode cX5_inkBy 91 = .ok (.iload_n 2, 1) := by decide +kernel
theorem dX5_inkBy_92 : decode cX5_inkBy 92 = .ok (.iload 7, 2) := by decide +kernel
theorem dX5_inkBy_94 : decode cX5_inkBy 94 = .ok (.iconst 1, 1) := by decide +kernel
theorem dX5_inkBy_95 : decode cX5_inkBy 95 = .ok (.iadd, 1) := by decide +kernel
theorem dX5_inkBy_96 : decode cX5_inkBy 96 = .ok (.iload 4, 2) := by decide +kernel
theorem dX5_inkBy_98 : decode cX5_inkBy 98 = .ok (.iload 6, 2) := by decide +kernel
theorem dX5_inkBy_100 : decode cX5_inkBy 100 = .ok (.iconst 2, 1) := by decide +kernel
theorem dX5_inkBy_101 : decode cX5_inkBy 101 = .ok (.idiv, 1) := by decide +kernel
theorem dX5_inkBy_102 : decode cX5_inkBy 102 = .ok (.iconst 0, 1) := by decide +kernel
theorem dX5_inkBy_103 : decode cX5_inkBy 103 = .ok (.invokevirtual 86, 3) := by decide +kernel
theorem dX5_inkBy_106 : decode cX5_inkBy 106 = .ok (.return_, 1) := by decide +kernel
theorem dX5_darker_0 : decode cX5_darker 0 = .ok (.iconst 0, 1) := by decide +kernel
theorem dX5_darker_1 : decode cX5_darker 1 = .ok (.istore_n 1, 1) := by decide +kernel
theorem dX5_darker_2 : decode cX5_darker 2 = .ok (.iconst 0, 1) := by decide +kernel
theorem dX5_darker_3 : decode cX5_darker 3 = .ok (.istore_n 2, 1) := by decide +kernel
theorem dX5_darker_4 : decode cX5_darker 4 = .ok (.iload_n 2, 1) := by decide +kernel
theorem dX5_darker_5 : decode cX5_darker 5 = .ok (.bipush 64, 2) := by decide +kernel
theorem dX5_darker_7 : decode cX5_darker 7 = .ok (.if_icmp .ge 34, 3) := by decide +kernel
theorem dX5_darker_10 : decode cX5_darker 10 = .ok (.iload_n 1, 1) := by decide +kernel
theorem dX5_darker_11 : decode cX5_darker 11 = .ok (.aload_n 0, 1) := by decide +kernel
theorem dX5_darker_12 : decode cX5_darker 12 = .ok (.getfield 20, 3) := by decide +kernel
theorem dX5_darker_15 : decode cX5_darker 15 = .ok (.iload_n 2, 1) := by decide +kernel
theorem dX5_darker_16 : decode cX5_darker 16 = .ok (.iaload, 1) := by decide +kernel
theorem dX5_darker_17 : decode cX5_darker 17 = .ok (.aload_n 0, 1) := by decide +kernel
theorem dX5_darker_18 : decode cX5_darker 18 = .ok (.getfield 7, 3) := by decide +kernel
theorem dX5_darker_21 : decode cX5_darker 21 = .ok (.iconst 0, 1) := by decide +kernel
theorem dX5_darker_22 : decode cX5_darker 22 = .ok (.iload_n 2, 1) := by decide +kernel
theorem dX5_darker_23 : decode cX5_darker 23 = .ok (.iadd, 1) := by decide +kernel
theorem dX5_darker_24 : decode cX5_darker 24 = .ok (.iaload, 1) := by decide +kernel
theorem dX5_darker_25 : decode cX5_darker 25 = .ok (.if_icmp .le 7, 3) := by decide +kernel
theorem dX5_darker_28 : decode cX5_darker 28 = .ok (.iconst 1, 1) := by decide +kernel
theorem dX5_darker_29 : decode cX5_darker 29 = .ok (.goto 4, 3) := by decide +kernel
theorem dX5_darker_32 : decode cX5_darker 32 = .ok (.iconst 0, 1) := by decide +kernel
theorem dX5_darker_33 : decode cX5_darker 33 = .ok (.iadd, 1) := by decide +kernel
theorem dX5_darker_34 : decode cX5_darker 34 = .ok (.istore_n 1, 1) := by decide +kernel
theorem dX5_darker_35 : decode cX5_darker 35 = .ok (.iinc 2 1, 3) := by decide +kernel
theorem dX5_darker_38 : decode cX5_darker 38 = .ok (.goto (-34), 3) := by decide +kernel
theorem dX5_darker_41 : decode cX5_darker 41 = .ok (.iload_n 1, 1) := by decide +kernel
theorem dX5_darker_42 : decode cX5_darker 42 = .ok (.ireturn, 1) := by decide +kernel
theorem dX5_printOne_0 : decode cX5_printOne 0 = .ok (.aload_n 0, 1) := by decide +kernel
theorem dX5_printOne_1 : decode cX5_printOne 1 = .ok (.iload_n 1, 1) := by decide +kernel
theorem dX5_printOne_2 : decode cX5_printOne 2 = .ok (.aload_n 0, 1) := by decide +kernel
theorem dX5_printOne_3 : decode cX5_printOne 3 = .ok (.iload_n 2, 1) := by decide +kernel
theorem dX5_printOne_4 : decode cX5_printOne 4 = .ok (.iload 5, 2) := by decide +kernel
theorem dX5_printOne_6 : decode cX5_printOne 6 = .ok (.invokevirtual 90, 3) := by decide +kernel
theorem dX5_printOne_9 : decode cX5_printOne 9 = .ok (.iload_n 3, 1) := by decide +kernel
theorem dX5_printOne_10 : decode cX5_printOne 10 = .ok (.iload 4, 2) := by decide +kernel
theorem dX5_printOne_12 : decode cX5_printOne 12 = .ok (.aload_n 0, 1) := by decide +kernel
theorem dX5_printOne_13 : decode cX5_printOne 13 = .ok (.getfield 7, 3) := by decide +kernel
theorem dX5_printOne_16 : decode cX5_printOne 16 = .ok (.bipush 64, 2) := by decide +kernel
theorem dX5_printOne_18 : decode cX5_printOne 18 = .ok (.iaload, 1) := by decide +kernel
theorem dX5_printOne_19 : decode cX5_printOne 19 = .ok (.invokevirtual 93, 3) := by decide +kernel
theorem dX5_printOne_22 : decode cX5_printOne 22 = .ok (.aload_n 0, 1) := by decide +kernel
theorem dX5_printOne_23 : decode cX5_printOne 23 = .ok (.invokevirtual 97, 3) := by decide +kernel
theorem dX5_printOne_26 : decode cX5_printOne 26 = .ok (.istore 6, 2) := by decide +kernel
theorem dX5_printOne_28 : decode cX5_printOne 28 = .ok (.iconst 0, 1) := by decide +kernel
theorem dX5_printOne_29 : decode cX5_printOne 29 = .ok (.istore 7, 2) := by decide +kernel
theorem dX5_printOne_31 : decode cX5_printOne 31 = .ok (.iload 7, 2) := by decide +kernel
theorem dX5_printOne_33 : decode cX5_printOne 33 = .ok (.bipush 64, 2) := by decide +kernel
theorem dX5_printOne_35 : decode cX5_printOne 35 = .ok (.if_icmp .ge 56, 3) := by decide +kernel
theorem dX5_printOne_38 : decode cX5_printOne 38 = .ok (.aload_n 0, 1) := by decide +kernel
theorem dX5_printOne_39 : decode cX5_printOne 39 = .ok (.getfield 7, 3) := by decide +kernel
theorem dX5_printOne_42 : decode cX5_printOne 42 = .ok (.iconst 0, 1) := by decide +kernel
theorem dX5_printOne_43 : decode cX5_printOne 43 = .ok (.iload 7, 2) := by decide +kernel
theorem dX5_printOne_45 : decode cX5_printOne 45 = .ok (.iadd, 1) := by decide +kernel
theorem dX5_printOne_46 : decode cX5_printOne 46 = .ok (.aload_n 0, 1) := by decide +kernel
theorem dX5_printOne_47 : decode cX5_printOne 47 = .ok (.getfield 20, 3) := by decide +kernel
theorem dX5_printOne_50 : decode cX5_printOne 50 = .ok (.iload 7, 2) := by decide +kernel
theorem dX5_printOne_52 : decode cX5_printOne 52 = .ok (.iaload, 1) := by decide +kernel
theorem dX5_printOne_53 : decode cX5_printOne 53 = .ok (.aload_n 0, 1) := by decide +kernel
theorem dX5_printOne_54 : decode cX5_printOne 54 = .ok (.getfield 7, 3) := by decide +kernel
theorem dX5_printOne_57 : decode cX5_printOne 57 = .ok (.iconst 0, 1) := by decide +kernel
theorem dX5_printOne_58 : decode cX5_printOne 58 = .ok (.iload 7, 2) := by decide +kernel
theorem dX5_printOne_60 : decode cX5_printOne 60 = .ok (.iadd, 1) := by decide +kernel
theorem dX5_printOne_61 : decode cX5_printOne 61 = .ok (.iaload, 1) := by decide +kernel
theorem dX5_printOne_62 : decode cX5_printOne 62 = .ok (.if_icmp .le 13, 3) := by decide +kernel
theorem dX5_printOne_65 : decode cX5_printOne 65 = .ok (.aload_n 0, 1) := by decide +kernel
theorem dX5_printOne_66 : decode cX5_printOne 66 = .ok (.getfield 20, 3) := by decide +kernel
theorem dX5_printOne_69 : decode cX5_printOne 69 = .ok (.iload 7, 2) := by decide +kernel
theorem dX5_printOne_71 : decode cX5_printOne 71 = .ok (.iaload, 1) := by decide +kernel
theorem dX5_printOne_72 : decode cX5_printOne 72 = .ok (.goto 12, 3) := by decide +kernel
theorem dX5_printOne_75 : decode cX5_printOne 75 = .ok (.aload_n 0, 1) := by decide +kernel
theorem dX5_printOne_76 : decode cX5_printOne 76 = .ok (.getfield 7, 3) := by decide +kernel
theorem dX5_printOne_79 : decode cX5_printOne 79 = .ok (.iconst 0, 1) := by decide +kernel
theorem dX5_printOne_80 : decode cX5_printOne 80 = .ok (.iload 7, 2) := by decide +kernel
theorem dX5_printOne_82 : decode cX5_printOne 82 = .ok (.iadd, 1) := by decide +kernel
theorem dX5_printOne_83 : decode cX5_printOne 83 = .ok (.iaload, 1) := by decide +kernel
theorem dX5_printOne_84 : decode cX5_printOne 84 = .ok (.iastore, 1) := by decide +kernel
theorem dX5_printOne_85 : decode cX5_printOne 85 = .ok (.iinc 7 1, 3) := by decide +kernel
theorem dX5_printOne_88 : decode cX5_printOne 88 = .ok (.goto (-57), 3) := by decide +kernel
theorem dX5_printOne_91 : decode cX5_printOne 91 = .ok (.aload_n 0, 1) := by decide +kernel
theorem dX5_printOne_92 : decode cX5_printOne 92 = .ok (.getfield 7, 3) := by decide +kernel
theorem dX5_printOne_95 : decode cX5_printOne 95 = .ok (.bipush 64, 2) := by decide +kernel
theorem dX5_printOne_97 : decode cX5_printOne 97 = .ok (.dup2, 1) := by decide +kernel
theorem dX5_printOne_98 : decode cX5_printOne 98 = .ok (.iaload, 1) := by decide +kernel
theorem dX5_printOne_99 : decode cX5_printOne 99 = .ok (.iload_n 1, 1) := by decide +kernel
theorem dX5_printOne_100 : decode cX5_printOne 100 = .ok (.aload_n 0, 1) := by decide +kernel
theorem dX5_printOne_101 : decode cX5_printOne 101 = .ok (.getfield 7, 3) := by decide +kernel
theorem dX5_printOne_104 : decode cX5_printOne 104 = .ok (.bipush 64, 2) := by decide +kernel
theorem dX5_printOne_106 : decode cX5_printOne 106 = .ok (.iaload, 1) := by decide +kernel
theorem dX5_printOne_107 : decode cX5_printOne 107 = .ok (.invokestatic 101, 3) := by decide +kernel
theorem dX5_printOne_110 : decode cX5_printOne 110 = .ok (.isub, 1) := by decide +kernel
theorem dX5_printOne_111 : decode cX5_printOne 111 = .ok (.iastore, 1) := by decide +kernel
theorem dX5_printOne_112 : decode cX5_printOne 112 = .ok (.iload 6, 2) := by decide +kernel
theorem dX5_printOne_114 : decode cX5_printOne 114 = .ok (.ireturn, 1) := by decide +kernel
theorem dX5_darkMany_0 : decode cX5_darkMany 0 = .ok (.iconst 0, 1) := by decide +kernel
theorem dX5_darkMany_1 : decode cX5_darkMany 1 = .ok (.istore_n 1, 1) := by decide +kernel
theorem dX5_darkMany_2 : decode cX5_darkMany 2 = .ok (.iconst 0, 1) := by decide +kernel
theorem dX5_darkMany_3 : decode cX5_darkMany 3 = .ok (.istore_n 2, 1) := by decide +kernel
theorem dX5_darkMany_4 : decode cX5_darkMany 4 = .ok (.iload_n 2, 1) := by decide +kernel
theorem dX5_darkMany_5 : decode cX5_darkMany 5 = .ok (.bipush 64, 2) := by decide +kernel
theorem dX5_darkMany_7 : decode cX5_darkMany 7 = .ok (.if_icmp .ge 28, 3) := by decide +kernel
theorem dX5_darkMany_10 : decode cX5_darkMany 10 = .ok (.iload_n 1, 1) := by decide +kernel
theorem dX5_darkMany_11 : decode cX5_darkMany 11 = .ok (.aload_n 0, 1) := by decide +kernel
theorem dX5_darkMany_12 : decode cX5_darkMany 12 = .ok (.getfield 7, 3) := by decide +kernel
theorem dX5_darkMany_15 : decode cX5_darkMany 15 = .ok (.iconst 0, 1) := by decide +kernel
theorem dX5_darkMany_16 : decode cX5_darkMany 16 = .ok (.iload_n 2, 1) := by decide +kernel
theorem dX5_darkMany_17 : decode cX5_darkMany 17 = .ok (.iadd, 1) := by decide +kernel
theorem dX5_darkMany_18 : decode cX5_darkMany 18 = .ok (.iaload, 1) := by decide +kernel
theorem dX5_darkMany_19 : decode cX5_darkMany 19 = .ok (.ifCond .le 7, 3) := by decide +kernel
theorem dX5_darkMany_22 : decode cX5_darkMany 22 = .ok (.iconst 1, 1) := by decide +kernel
theorem dX5_darkMany_23 : decode cX5_darkMany 23 = .ok (.goto 4, 3) := by decide +kernel
theorem dX5_darkMany_26 : decode cX5_darkMany 26 = .ok (.iconst 0, 1) := by decide +kernel
theorem dX5_darkMany_27 : decode cX5_darkMany 27 = .ok (.iadd, 1) := by decide +kernel
theorem dX5_darkMany_28 : decode cX5_darkMany 28 = .ok (.istore_n 1, 1) := by decide +kernel
theorem dX5_darkMany_29 : decode cX5_darkMany 29 = .ok (.iinc 2 1, 3) := by decide +kernel
theorem dX5_darkMany_32 : decode cX5_darkMany 32 = .ok (.goto (-28), 3) := by decide +kernel
theorem dX5_darkMany_35 : decode cX5_darkMany 35 = .ok (.iload_n 1, 1) := by decide +kernel
theorem dX5_darkMany_36 : decode cX5_darkMany 36 = .ok (.ireturn, 1) := by decide +kernel
theorem dX5_anew_0 : decode cX5_anew 0 = .ok (.iconst 0, 1) := by decide +kernel
theorem dX5_anew_1 : decode cX5_anew 1 = .ok (.istore_n 2, 1) := by decide +kernel
theorem dX5_anew_2 : decode cX5_anew 2 = .ok (.iload_n 2, 1) := by decide +kernel
theorem dX5_anew_3 : decode cX5_anew 3 = .ok (.bipush 99, 2) := by decide +kernel
theorem dX5_anew_5 : decode cX5_anew 5 = .ok (.if_icmp .ge 16, 3) := by decide +kernel
theorem dX5_anew_8 : decode cX5_anew 8 = .ok (.aload_n 0, 1) := by decide +kernel
theorem dX5_anew_9 : decode cX5_anew 9 = .ok (.getfield 7, 3) := by decide +kernel
theorem dX5_anew_12 : decode cX5_anew 12 = .ok (.iload_n 2, 1) := by decide +kernel
theorem dX5_anew_13 : decode cX5_anew 13 = .ok (.iconst 0, 1) := by decide +kernel
theorem dX5_anew_14 : decode cX5_anew 14 = .ok (.iastore, 1) := by decide +kernel
theorem dX5_anew_15 : decode cX5_anew 15 = .ok (.iinc 2 1, 3) := by decide +kernel
theorem dX5_anew_18 : decode cX5_anew 18 = .ok (.goto (-16), 3) := by decide +kernel
theorem dX5_anew_21 : decode cX5_anew 21 = .ok (.aload_n 0, 1) := by decide +kernel
theorem dX5_anew_22 : decode cX5_anew 22 = .ok (.getfield 7, 3) := by decide +kernel
theorem dX5_anew_25 : decode cX5_anew 25 = .ok (.bipush 64, 2) := by decide +kernel
theorem dX5_anew_27 : decode cX5_anew 27 = .ok (.iload_n 1, 1) := by decide +kernel
theorem dX5_anew_28 : decode cX5_anew 28 = .ok (.iastore, 1) := by decide +kernel
theorem dX5_anew_29 : decode cX5_anew 29 = .ok (.aload_n 0, 1) := by decide +kernel
theorem dX5_anew_30 : decode cX5_anew 30 = .ok (.iconst 0, 1) := by decide +kernel
theorem dX5_anew_31 : decode cX5_anew 31 = .ok (.putfield 104, 3) := by decide +kernel
theorem dX5_anew_34 : decode cX5_anew 34 = .ok (.return_, 1) := by decide +kernel
theorem dX5_table_0 : decode cX5_table 0 = .ok (.iload_n 1, 1) := by decide +kernel
theorem dX5_table_1 : decode cX5_table 1 = .ok (.i2l, 1) := by decide +kernel
theorem dX5_table_2 : decode cX5_table 2 = .ok (.lconst 0, 1) := by decide +kernel
theorem dX5_table_3 : decode cX5_table 3 = .ok (.ldc2_w 108, 3) := by decide +kernel
theorem dX5_table_6 : decode cX5_table 6 = .ok (.invokestatic 54, 3) := by decide +kernel
theorem dX5_table_9 : decode cX5_table 9 = .ok (.ifCond .ne 8, 3) := by decide +kernel
theorem dX5_table_12 : decode cX5_table 12 = .ok (.aload_n 0, 1) := by decide +kernel
theorem dX5_table_13 : decode cX5_table 13 = .ok (.invokevirtual 110, 3) := by decide +kernel
theorem dX5_table_16 : decode cX5_table 16 = .ok (.ireturn, 1) := by decide +kernel
theorem dX5_table_17 : decode cX5_table 17 = .ok (.aload_n 0, 1) := by decide +kernel
theorem dX5_table_18 : decode cX5_table 18 = .ok (.invokevirtual 113, 3) := by decide +kernel
theorem dX5_table_21 : decode cX5_table 21 = .ok (.istore_n 2, 1) := by decide +kernel
theorem dX5_table_22 : decode cX5_table 22 = .ok (.aload_n 0, 1) := by decide +kernel
theorem dX5_table_23 : decode cX5_table 23 = .ok (.iload_n 1, 1) := by decide +kernel
theorem dX5_table_24 : decode cX5_table 24 = .ok (.invokevirtual 116, 3) := by decide +kernel
theorem dX5_table_27 : decode cX5_table 27 = .ok (.iload_n 2, 1) := by decide +kernel
theorem dX5_table_28 : decode cX5_table 28 = .ok (.ireturn, 1) := by decide +kernel
theorem dX5_cut_0 : decode cX5_cut 0 = .ok (.iload_n 1, 1) := by decide +kernel
theorem dX5_cut_1 : decode cX5_cut 1 = .ok (.invokestatic 62, 3) := by decide +kernel
theorem dX5_cut_4 : decode cX5_cut 4 = .ok (.ifCond .eq 15, 3) := by decide +kernel
theorem dX5_cut_7 : decode cX5_cut 7 = .ok (.iload_n 2, 1) := by decide +kernel
theorem dX5_cut_8 : decode cX5_cut 8 = .ok (.i2l, 1) := by decide +kernel
theorem dX5_cut_9 : decode cX5_cut 9 = .ok (.lconst 0, 1) := by decide +kernel
theorem dX5_cut_10 : decode cX5_cut 10 = .ok (.ldc2_w 120, 3) := by decide +kernel
theorem dX5_cut_13 : decode cX5_cut 13 = .ok (.invokestatic 54, 3) := by decide +kernel
theorem dX5_cut_16 : decode cX5_cut 16 = .ok (.ifCond .ne 8, 3) := by decide +kernel
theorem dX5_cut_19 : decode cX5_cut 19 = .ok (.aload_n 0, 1) := by decide +kernel
theorem dX5_cut_20 : decode cX5_cut 20 = .ok (.invokevirtual 110, 3) := by decide +kernel
theorem dX5_cut_23 : decode cX5_cut 23 = .ok (.ireturn, 1) := by decide +kernel
theorem dX5_cut_24 : decode cX5_cut 24 = .ok (.aload_n 0, 1) := by decide +kernel
theorem dX5_cut_25 : decode cX5_cut 25 = .ok (.getfield 7, 3) := by decide +kernel
theorem dX5_cut_28 : decode cX5_cut 28 = .ok (.bipush 65, 2) := by decide +kernel
theorem dX5_cut_30 : decode cX5_cut 30 = .ok (.iload_n 1, 1) := by decide +kernel
theorem dX5_cut_31 : decode cX5_cut 31 = .ok (.iadd, 1) := by decide +kernel
theorem dX5_cut_32 : decode cX5_cut 32 = .ok (.iaload, 1) := by decide +kernel
theorem dX5_cut_33 : decode cX5_cut 33 = .ok (.istore_n 3, 1) := by decide +kernel
theorem dX5_cut_34 : decode cX5_cut 34 = .ok (.aload_n 0, 1) := by decide +kernel
theorem dX5_cut_35 : decode cX5_cut 35 = .ok (.getfield 7, 3) := by decide +kernel
theorem dX5_cut_38 : decode cX5_cut 38 = .ok (.bipush 65, 2) := by decide +kernel
theorem dX5_cut_40 : decode cX5_cut 40 = .ok (.iload_n 1, 1) := by decide +kernel
theorem dX5_cut_41 : decode cX5_cut 41 = .ok (.iadd, 1) := by decide +kernel
theorem dX5_cut_42 : decode cX5_cut 42 = .ok (.iload_n 2, 1) := by decide +kernel
theorem dX5_cut_43 : decode cX5_cut 43 = .ok (.iastore, 1) := by decide +kernel
theorem dX5_cut_44 : decode cX5_cut 44 = .ok (.aload_n 0, 1) := by decide +kernel
theorem dX5_cut_45 : decode cX5_cut 45 = .ok (.iconst 0, 1) := by decide +kernel
theorem dX5_cut_46 : decode cX5_cut 46 = .ok (.putfield 104, 3) := by decide +kernel
theorem dX5_cut_49 : decode cX5_cut 49 = .ok (.iload_n 3, 1) := by decide +kernel
theorem dX5_cut_50 : decode cX5_cut 50 = .ok (.ireturn, 1) := by decide +kernel
theorem dX5_note_0 : decode cX5_note 0 = .ok (.aload_n 0, 1) := by decide +kernel
theorem dX5_note_1 : decode cX5_note 1 = .ok (.getfield 104, 3) := by decide +kernel
theorem dX5_note_4 : decode cX5_note 4 = .ok (.bipush 8, 2) := by decide +kernel
theorem dX5_note_6 : decode cX5_note 6 = .ok (.if_icmp .ne 43, 3) := by decide +kernel
theorem dX5_note_9 : decode cX5_note 9 = .ok (.iconst 0, 1) := by decide +kernel
theorem dX5_note_10 : decode cX5_note 10 = .ok (.istore_n 1, 1) := by decide +kernel
theorem dX5_note_11 : decode cX5_note 11 = .ok (.iload_n 1, 1) := by decide +kernel
theorem dX5_note_12 : decode cX5_note 12 = .ok (.sipush 455, 3) := by decide +kernel
theorem dX5_note_15 : decode cX5_note 15 = .ok (.if_icmp .ge 24, 3) := by decide +kernel
theorem dX5_note_18 : decode cX5_note 18 = .ok (.aload_n 0, 1) := by decide +kernel
theorem dX5_note_19 : decode cX5_note 19 = .ok (.getfield 23, 3) := by decide +kernel
theorem dX5_note_22 : decode cX5_note 22 = .ok (.iload_n 1, 1) := by decide +kernel
theorem dX5_note_23 : decode cX5_note 23 = .ok (.aload_n 0, 1) := by decide +kernel
theorem dX5_note_24 : decode cX5_note 24 = .ok (.getfield 23, 3) := by decide +kernel
theorem dX5_note_27 : decode cX5_note 27 = .ok (.iload_n 1, 1) := by decide +kernel
theorem dX5_note_28 : decode cX5_note 28 = .ok (.bipush 65, 2) := by decide +kernel
theorem dX5_note_30 : decode cX5_note 30 = .ok (.iadd, 1) := by decide +kernel
theorem dX5_note_31 : decode cX5_note 31 = .ok (.iaload, 1) := by decide +kernel
theorem dX5_note_32 : decode cX5_note 32 = .ok (.iastore, 1) := by decide +kernel
theorem dX5_note_33 : decode cX5_note 33 = .ok (.iinc 1 1, 3) := by decide +kernel
theorem dX5_note_36 : decode cX5_note 36 = .ok (.goto (-25), 3) := by decide +kernel
theorem dX5_note_39 : decode cX5_note 39 = .ok (.aload_n 0, 1) := by decide +kernel
theorem dX5_note_40 : decode cX5_note 40 = .ok (.dup, 1) := by decide +kernel
theorem dX5_note_41 : decode cX5_note 41 = .ok (.getfield 104, 3) := by decide +kernel
theorem dX5_note_44 : decode cX5_note 44 = .ok (.iconst 1, 1) := by decide +kernel
theorem dX5_note_45 : decode cX5_note 45 = .ok (.isub, 1) := by decide +kernel
theorem dX5_note_46 : decode cX5_note 46 = .ok (.putfield 104, 3) := by decide +kernel
theorem dX5_note_49 : decode cX5_note 49 = .ok (.iconst 0, 1) := by decide +kernel
theorem dX5_note_50 : decode cX5_note 50 = .ok (.istore_n 1, 1) := by decide +kernel
theorem dX5_note_51 : decode cX5_note 51 = .ok (.iload_n 1, 1) := by decide +kernel
theorem dX5_note_52 : decode cX5_note 52 = .ok (.bipush 65, 2) := by decide +kernel
theorem dX5_note_54 : decode cX5_note 54 = .ok (.if_icmp .ge 29, 3) := by decide +kernel
theorem dX5_note_57 : decode cX5_note 57 = .ok (.aload_n 0, 1) := by decide +kernel
theorem dX5_note_58 : decode cX5_note 58 = .ok (.getfield 23, 3) := by decide +kernel
theorem dX5_note_61 : decode cX5_note 61 = .ok (.bipush 65, 2) := by decide +kernel
theorem dX5_note_63 : decode cX5_note 63 = .ok (.aload_n 0, 1) := by decide +kernel
theorem dX5_note_64 : decode cX5_note 64 = .ok (.getfield 104, 3) := by decide +kernel
theorem dX5_note_67 : decode cX5_note 67 = .ok (.imul, 1) := by decide +kernel
theorem dX5_note_68 : decode cX5_note 68 = .ok (.iload_n 1, 1) := by decide +kernel
theorem dX5_note_69 : decode cX5_note 69 = .ok (.iadd, 1) := by decide +kernel
theorem dX5_note_70 : decode cX5_note 70 = .ok (.aload_n 0, 1) := by decide +kernel
theorem dX5_note_71 : decode cX5_note 71 = .ok (.getfield 7, 3) := by decide +kernel
theorem dX5_note_74 : decode cX5_note 74 = .ok (.iload_n 1, 1) := by decide +kernel
theorem dX5_note_75 : decode cX5_note 75 = .ok (.iaload, 1) := by decide +kernel
theorem dX5_note_76 : decode cX5_note 76 = .ok (.iastore, 1) := by decide +kernel
theorem dX5_note_77 : decode cX5_note 77 = .ok (.iinc 1 1, 3) := by decide +kernel
theorem dX5_note_80 : decode cX5_note 80 = .ok (.goto (-29), 3) := by decide +kernel
theorem dX5_note_83 : decode cX5_note 83 = .ok (.aload_n 0, 1) := by decide +kernel
theorem dX5_note_84 : decode cX5_note 84 = .ok (.dup, 1) := by decide +kernel
theorem dX5_note_85 : decode cX5_note 85 = .ok (.getfield 104, 3) := by decide +kernel
theorem dX5_note_88 : decode cX5_note 88 = .ok (.iconst 1, 1) := by decide +kernel
theorem dX5_note_89 : decode cX5_note 89 = .ok (.iadd, 1) := by decide +kernel
theorem dX5_note_90 : decode cX5_note 90 = .ok (.putfield 104, 3) := by decide +kernel
theorem dX5_note_93 : decode cX5_note 93 = .ok (.return_, 1) := by decide +kernel
theorem dX5_dip_0 : decode cX5_dip 0 = .ok (.iload_n 1, 1) := by decide +kernel
theorem dX5_dip_1 : decode cX5_dip 1 = .ok (.i2l, 1) := by decide +kernel
theorem dX5_dip_2 : decode cX5_dip 2 = .ok (.lconst 0, 1) := by decide +kernel
theorem dX5_dip_3 : decode cX5_dip 3 = .ok (.ldc2_w 108, 3) := by decide +kernel
theorem dX5_dip_6 : decode cX5_dip 6 = .ok (.invokestatic 54, 3) := by decide +kernel
theorem dX5_dip_9 : decode cX5_dip 9 = .ok (.ifCond .ne 8, 3) := by decide +kernel
theorem dX5_dip_12 : decode cX5_dip 12 = .ok (.aload_n 0, 1) := by decide +kernel
theorem dX5_dip_13 : decode cX5_dip 13 = .ok (.invokevirtual 110, 3) := by decide +kernel
theorem dX5_dip_16 : decode cX5_dip 16 = .ok (.ireturn, 1) := by decide +kernel
theorem dX5_dip_17 : decode cX5_dip 17 = .ok (.aload_n 0, 1) := by decide +kernel
theorem dX5_dip_18 : decode cX5_dip 18 = .ok (.invokevirtual 122, 3) := by decide +kernel
theorem dX5_dip_21 : decode cX5_dip 21 = .ok (.aload_n 0, 1) := by decide +kernel
theorem dX5_dip_22 : decode cX5_dip 22 = .ok (.getfield 7, 3) := by decide +kernel
theorem dX5_dip_25 : decode cX5_dip 25 = .ok (.bipush 64, 2) := by decide +kernel
theorem dX5_dip_27 : decode cX5_dip 27 = .ok (.iaload, 1) := by decide +kernel
theorem dX5_dip_28 : decode cX5_dip 28 = .ok (.istore_n 2, 1) := by decide +kernel
theorem dX5_dip_29 : decode cX5_dip 29 = .ok (.aload_n 0, 1) := by decide +kernel
theorem dX5_dip_30 : decode cX5_dip 30 = .ok (.getfield 7, 3) := by decide +kernel
theorem dX5_dip_33 : decode cX5_dip 33 = .ok (.bipush 64, 2) := by decide +kernel
theorem dX5_dip_35 : decode cX5_dip 35 = .ok (.iload_n 1, 1) := by decide +kernel
theorem dX5_dip_36 : decode cX5_dip 36 = .ok (.iastore, 1) := by decide +kernel
theorem dX5_dip_37 : decode cX5_dip 37 = .ok (.iload_n 2, 1) := by decide +kernel
theorem dX5_dip_38 : decode cX5_dip 38 = .ok (.ireturn, 1) := by decide +kernel
theorem dX5_print_0 : decode cX5_print 0 = .ok (.iload_n 1, 1) := by decide +kernel
theorem dX5_print_1 : decode cX5_print 1 = .ok (.iload_n 2, 1) := by decide +kernel
theorem dX5_print_2 : decode cX5_print 2 = .ok (.iload_n 3, 1) := by decide +kernel
theorem dX5_print_3 : decode cX5_print 3 = .ok (.iload 4, 2) := by decide +kernel
theorem dX5_print_5 : decode cX5_print 5 = .ok (.iload 5, 2) := by decide +kernel
theorem dX5_print_7 : decode cX5_print 7 = .ok (.invokestatic 125, 3) := by decide +kernel
theorem dX5_print_10 : decode cX5_print 10 = .ok (.ifCond .ne 8, 3) := by decide +kernel
theorem dX5_print_13 : decode cX5_print 13 = .ok (.aload_n 0, 1) := by decide +kernel
theorem dX5_print_14 : decode cX5_print 14 = .ok (.invokevirtual 110, 3) := by decide +kernel
theorem dX5_print_17 : decode cX5_print 17 = .ok (.ireturn, 1) := by decide +kernel
theorem dX5_print_18 : decode cX5_print 18 = .ok (.aload_n 0, 1) := by decide +kernel
theorem dX5_print_19 : decode cX5_print 19 = .ok (.getfield 7, 3) := by decide +kernel
theorem dX5_print_22 : decode cX5_print 22 = .ok (.bipush 64, 2) := by decide +kernel
theorem dX5_print_24 : decode cX5_print 24 = .ok (.iaload, 1) := by decide +kernel
theorem dX5_print_25 : decode cX5_print 25 = .ok (.ifCond .ne 8, 3) := by decide +kernel
theorem dX5_print_28 : decode cX5_print 28 = .ok (.aload_n 0, 1) := by decide +kernel
theorem dX5_print_29 : decode cX5_print 29 = .ok (.invokevirtual 129, 3) := by decide +kernel
theorem dX5_print_32 : decode cX5_print 32 = .ok (.ireturn, 1) := by decide +kernel
theorem dX5_print_33 : decode cX5_print 33 = .ok (.aload_n 0, 1) := by decide +kernel
theorem dX5_print_34 : decode cX5_print 34 = .ok (.invokevirtual 122, 3) := by decide +kernel
theorem dX5_print_37 : decode cX5_print 37 = .ok (.aload_n 0, 1) := by decide +kernel
theorem dX5_print_38 : decode cX5_print 38 = .ok (.iload_n 1, 1) := by decide +kernel
theorem dX5_print_39 : decode cX5_print 39 = .ok (.iload_n 2, 1) := by decide +kernel
theorem dX5_print_40 : decode cX5_print 40 = .ok (.iload_n 3, 1) := by decide +kernel
theorem dX5_print_41 : decode cX5_print 41 = .ok (.iload 4, 2) := by decide +kernel
theorem dX5_print_43 : decode cX5_print 43 = .ok (.iload 5, 2) := by decide +kernel
theorem dX5_print_45 : decode cX5_print 45 = .ok (.invokevirtual 132, 3) := by decide +kernel
theorem dX5_print_48 : decode cX5_print 48 = .ok (.ireturn, 1) := by decide +kernel
theorem dX5_undo_0 : decode cX5_undo 0 = .ok (.aload_n 0, 1) := by decide +kernel
theorem dX5_undo_1 : decode cX5_undo 1 = .ok (.getfield 104, 3) := by decide +kernel
theorem dX5_undo_4 : decode cX5_undo 4 = .ok (.ifCond .ne 8, 3) := by decide +kernel
theorem dX5_undo_7 : decode cX5_undo 7 = .ok (.aload_n 0, 1) := by decide +kernel
theorem dX5_undo_8 : decode cX5_undo 8 = .ok (.invokevirtual 129, 3) := by decide +kernel
theorem dX5_undo_11 : decode cX5_undo 11 = .ok (.ireturn, 1) := by decide +kernel
theorem dX5_undo_12 : decode cX5_undo 12 = .ok (.aload_n 0, 1) := by decide +kernel
theorem dX5_undo_13 : decode cX5_undo 13 = .ok (.dup, 1) := by decide +kernel
theorem dX5_undo_14 : decode cX5_undo 14 = .ok (.getfield 104, 3) := by decide +kernel
theorem dX5_undo_17 : decode cX5_undo 17 = .ok (.iconst 1, 1) := by decide +kernel
theorem dX5_undo_18 : decode cX5_undo 18 = .ok (.isub, 1) := by decide +kernel
theorem dX5_undo_19 : decode cX5_undo 19 = .ok (.putfield 104, 3) := by decide +kernel
theorem dX5_undo_22 : decode cX5_undo 22 = .ok (.iconst 0, 1) := by decide +kernel
theorem dX5_undo_23 : decode cX5_undo 23 = .ok (.istore_n 1, 1) := by decide +kernel
theorem dX5_undo_24 : decode cX5_undo 24 = .ok (.iload_n 1, 1) := by decide +kernel
theorem dX5_undo_25 : decode cX5_undo 25 = .ok (.bipush 65, 2) := by decide +kernel
theorem dX5_undo_27 : decode cX5_undo 27 = .ok (.if_icmp .ge 29, 3) := by decide +kernel
theorem dX5_undo_30 : decode cX5_undo 30 = .ok (.aload_n 0, 1) := by decide +kernel
theorem dX5_undo_31 : decode cX5_undo 31 = .ok (.getfield 7, 3) := by decide +kernel
theorem dX5_undo_34 : decode cX5_undo 34 = .ok (.iload_n 1, 1) := by decide +kernel
theorem dX5_undo_35 : decode cX5_undo 35 = .ok (.aload_n 0, 1) := by decide +kernel
theorem dX5_undo_36 : decode cX5_undo 36 = .ok (.getfield 23, 3) := by decide +kernel
theorem dX5_undo_39 : decode cX5_undo 39 = .ok (.bipush 65, 2) := by decide +kernel
theorem dX5_undo_41 : decode cX5_undo 41 = .ok (.aload_n 0, 1) := by decide +kernel
theorem dX5_undo_42 : decode cX5_undo 42 = .ok (.getfield 104, 3) := by decide +kernel
theorem dX5_undo_45 : decode cX5_undo 45 = .ok (.imul, 1) := by decide +kernel
theorem dX5_undo_46 : decode cX5_undo 46 = .ok (.iload_n 1, 1) := by decide +kernel
theorem dX5_undo_47 : decode cX5_undo 47 = .ok (.iadd, 1) := by decide +kernel
theorem dX5_undo_48 : decode cX5_undo 48 = .ok (.iaload, 1) := by decide +kernel
theorem dX5_undo_49 : decode cX5_undo 49 = .ok (.iastore, 1) := by decide +kernel
theorem dX5_undo_50 : decode cX5_undo 50 = .ok (.iinc 1 1, 3) := by decide +kernel
theorem dX5_undo_53 : decode cX5_undo 53 = .ok (.goto (-29), 3) := by decide +kernel
theorem dX5_undo_56 : decode cX5_undo 56 = .ok (.aload_n 0, 1) := by decide +kernel
theorem dX5_undo_57 : decode cX5_undo 57 = .ok (.getfield 7, 3) := by decide +kernel
theorem dX5_undo_60 : decode cX5_undo 60 = .ok (.bipush 64, 2) := by decide +kernel
theorem dX5_undo_62 : decode cX5_undo 62 = .ok (.iaload, 1) := by decide +kernel
theorem dX5_undo_63 : decode cX5_undo 63 = .ok (.ireturn, 1) := by decide +kernel
theorem dX5_type_0 : decode cX5_type 0 = .ok (.iload_n 1, 1) := by decide +kernel
theorem dX5_type_1 : decode cX5_type 1 = .ok (.i2l, 1) := by decide +kernel
theorem dX5_type_2 : decode cX5_type 2 = .ok (.lconst 0, 1) := by decide +kernel
theorem dX5_type_3 : decode cX5_type 3 = .ok (.ldc2_w 136, 3) := by decide +kernel
theorem dX5_type_6 : decode cX5_type 6 = .ok (.invokestatic 54, 3) := by decide +kernel
theorem dX5_type_9 : decode cX5_type 9 = .ok (.ifCond .ne 8, 3) := by decide +kernel
theorem dX5_type_12 : decode cX5_type 12 = .ok (.aload_n 0, 1) := by decide +kernel
theorem dX5_type_13 : decode cX5_type 13 = .ok (.invokevirtual 110, 3) := by decide +kernel
theorem dX5_type_16 : decode cX5_type 16 = .ok (.ireturn, 1) := by decide +kernel
theorem dX5_type_17 : decode cX5_type 17 = .ok (.aload_n 0, 1) := by decide +kernel
theorem dX5_type_18 : decode cX5_type 18 = .ok (.getfield 138, 3) := by decide +kernel
theorem dX5_type_21 : decode cX5_type 21 = .ok (.sipush 150, 3) := by decide +kernel
theorem dX5_type_24 : decode cX5_type 24 = .ok (.if_icmp .ne 8, 3) := by decide +kernel
theorem dX5_type_27 : decode cX5_type 27 = .ok (.aload_n 0, 1) := by decide +kernel
theorem dX5_type_28 : decode cX5_type 28 = .ok (.invokevirtual 141, 3) := by decide +kernel
theorem dX5_type_31 : decode cX5_type 31 = .ok (.ireturn, 1) := by decide +kernel
theorem dX5_type_32 : decode cX5_type 32 = .ok (.aload_n 0, 1) := by decide +kernel
theorem dX5_type_33 : decode cX5_type 33 = .ok (.getfield 26, 3) := by decide +kernel
theorem dX5_type_36 : decode cX5_type 36 = .ok (.aload_n 0, 1) := by decide +kernel
theorem dX5_type_37 : decode cX5_type 37 = .ok (.getfield 138, 3) := by decide +kernel
theorem dX5_type_40 : decode cX5_type 40 = .ok (.iload_n 1, 1) := by decide +kernel
theorem dX5_type_41 : decode cX5_type 41 = .ok (.iastore, 1) := by decide +kernel
theorem dX5_type_42 : decode cX5_type 42 = .ok (.aload_n 0, 1) := by decide +kernel
theorem dX5_type_43 : decode cX5_type 43 = .ok (.dup, 1) := by decide +kernel
theorem dX5_type_44 : decode cX5_type 44 = .ok (.getfield 138, 3) := by decide +kernel
theorem dX5_type_47 : decode cX5_type 47 = .ok (.iconst 1, 1) := by decide +kernel
theorem dX5_type_48 : decode cX5_type 48 = .ok (.iadd, 1) := by decide +kernel
theorem dX5_type_49 : decode cX5_type 49 = .ok (.putfield 138, 3) := by decide +kernel
theorem dX5_type_52 : decode cX5_type 52 = .ok (.aload_n 0, 1) := by decide +kernel
theorem dX5_type_53 : decode cX5_type 53 = .ok (.getfield 138, 3) := by decide +kernel
theorem dX5_type_56 : decode cX5_type 56 = .ok (.ireturn, 1) := by decide +kernel
theorem dX5_clear_0 : decode cX5_clear 0 = .ok (.aload_n 0, 1) := by decide +kernel
theorem dX5_clear_1 : decode cX5_clear 1 = .ok (.getfield 138, 3) := by decide +kernel
theorem dX5_clear_4 : decode cX5_clear 4 = .ok (.istore_n 1, 1) := by decide +kernel
theorem dX5_clear_5 : decode cX5_clear 5 = .ok (.aload_n 0, 1) := by decide +kernel
theorem dX5_clear_6 : decode cX5_clear 6 = .ok (.iconst 0, 1) := by decide +kernel
theorem dX5_clear_7 : decode cX5_clear 7 = .ok (.putfield 138, 3) := by decide +kernel
theorem dX5_clear_10 : decode cX5_clear 10 = .ok (.iload_n 1, 1) := by decide +kernel
theorem dX5_clear_11 : decode cX5_clear 11 = .ok (.ireturn, 1) := by decide +kernel
theorem dX5_byteAt_0 : decode cX5_byteAt 0 = .ok (.iload_n 1, 1) := by decide +kernel
theorem dX5_byteAt_1 : decode cX5_byteAt 1 = .ok (.aload_n 0, 1) := by decide +kernel
theorem dX5_byteAt_2 : decode cX5_byteAt 2 = .ok (.getfield 138, 3) := by decide +kernel
theorem dX5_byteAt_5 : decode cX5_byteAt 5 = .ok (.if_icmp .ge 12, 3) := by decide +kernel
theorem dX5_byteAt_8 : decode cX5_byteAt 8 = .ok (.aload_n 0, 1) := by decide +kernel
theorem dX5_byteAt_9 : decode cX5_byteAt 9 = .ok (.getfield 26, 3) := by decide +kernel
theorem dX5_byteAt_12 : decode cX5_byteAt 12 = .ok (.iload_n 1, 1) := by decide +kernel
theorem dX5_byteAt_13 : decode cX5_byteAt 13 = .ok (.iaload, 1) := by decide +kernel
theorem dX5_byteAt_14 : decode cX5_byteAt 14 = .ok (.goto 4, 3) := by decide +kernel
theorem dX5_byteAt_17 : decode cX5_byteAt 17 = .ok (.iconst (-1), 1) := by decide +kernel
theorem dX5_byteAt_18 : decode cX5_byteAt 18 = .ok (.ireturn, 1) := by decide +kernel
theorem dX5_nextToken_0 : decode cX5_nextToken 0 = .ok (.aload_n 0, 1) := by decide +kernel
theorem dX5_nextToken_1 : decode cX5_nextToken 1 = .ok (.aload_n 0, 1) := by decide +kernel
theorem dX5_nextToken_2 : decode cX5_nextToken 2 = .ok (.getfield 144, 3) := by decide +kernel
theorem dX5_nextToken_5 : decode cX5_nextToken 5 = .ok (.invokevirtual 147, 3) := by decide +kernel
theorem dX5_nextToken_8 : decode cX5_nextToken 8 = .ok (.bipush 32, 2) := by decide +kernel
theorem dX5_nextToken_10 : decode cX5_nextToken 10 = .ok (.if_icmp .ne 16, 3) := by decide +kernel
theorem dX5_nextToken_13 : decode cX5_nextToken 13 = .ok (.aload_n 0, 1) := by decide +kernel
theorem dX5_nextToken_14 : decode cX5_nextToken 14 = .ok (.dup, 1) := by decide +kernel
theorem dX5_nextToken_15 : decode cX5_nextToken 15 = .ok (.getfield 144, 3) := by decide +kernel
theorem dX5_nextToken_18 : decode cX5_nextToken 18 = .ok (.iconst 1, 1) := by decide +kernel
theorem dX5_nextToken_19 : decode cX5_nextToken 19 = .ok (.iadd, 1) := by decide +kernel
theorem dX5_nextToken_20 : decode cX5_nextToken 20 = .ok (.putfield 144, 3) := by decide +kernel
theorem dX5_nextToken_23 : decode cX5_nextToken 23 = .ok (.goto (-23), 3) := by decide +kernel
theorem dX5_nextToken_26 : decode cX5_nextToken 26 = .ok (.aload_n 0, 1) := by decide +kernel
theorem dX5_nextToken_27 : decode cX5_nextToken 27 = .ok (.aload_n 0, 1) := by decide +kernel
theorem dX5_nextToken_28 : decode cX5_nextToken 28 = .ok (.getfield 144, 3) := by decide +kernel
theorem dX5_nextToken_31 : decode cX5_nextToken 31 = .ok (.putfield 150, 3) := by decide +kernel
theorem dX5_nextToken_34 : decode cX5_nextToken 34 = .ok (.aload_n 0, 1) := by decide +kernel
theorem dX5_nextToken_35 : decode cX5_nextToken 35 = .ok (.iconst 0, 1) := by decide +kernel
theorem dX5_nextToken_36 : decode cX5_nextToken 36 = .ok (.putfield 153, 3) := by decide +kernel
theorem dX5_nextToken_39 : decode cX5_nextToken 39 = .ok (.aload_n 0, 1) := by decide +kernel
theorem dX5_nextToken_40 : decode cX5_nextToken 40 = .ok (.aload_n 0, 1) := by decide +kernel
theorem dX5_nextToken_41 : decode cX5_nextToken 41 = .ok (.getfield 144, 3) := by decide +kernel
theorem dX5_nextToken_44 : decode cX5_nextToken 44 = .ok (.aload_n 0, 1) := by decide +kernel
theorem dX5_nextToken_45 : decode cX5_nextToken 45 = .ok (.getfield 138, 3) := by decide +kernel
theorem dX5_nextToken_48 : decode cX5_nextToken 48 = .ok (.if_icmp .ne 7, 3) := by decide +kernel
theorem dX5_nextToken_51 : decode cX5_nextToken 51 = .ok (.iconst 3, 1) := by decide +kernel
theorem dX5_nextToken_52 : decode cX5_nextToken 52 = .ok (.goto 4, 3) := by decide +kernel
theorem dX5_nextToken_55 : decode cX5_nextToken 55 = .ok (.iconst 0, 1) := by decide +kernel
theorem dX5_nextToken_56 : decode cX5_nextToken 56 = .ok (.putfield 156, 3) := by decide +kernel
theorem dX5_nextToken_59 : decode cX5_nextToken 59 = .ok (.aload_n 0, 1) := by decide +kernel
theorem dX5_nextToken_60 : decode cX5_nextToken 60 = .ok (.aload_n 0, 1) := by decide +kernel
theorem dX5_nextToken_61 : decode cX5_nextToken 61 = .ok (.getfield 144, 3) := by decide +kernel
theorem dX5_nextToken_64 : decode cX5_nextToken 64 = .ok (.invokevirtual 147, 3) := by decide +kernel
theorem dX5_nextToken_67 : decode cX5_nextToken 67 = .ok (.i2l, 1) := by decide +kernel
theorem dX5_nextToken_68 : decode cX5_nextToken 68 = .ok (.ldc2_w 159, 3) := by decide +kernel
theorem dX5_nextToken_71 : decode cX5_nextToken 71 = .ok (.ldc2_w 161, 3) := by decide +kernel
theorem dX5_nextToken_74 : decode cX5_nextToken 74 = .ok (.invokestatic 54, 3) := by decide +kernel
theorem dX5_nextToken_77 : decode cX5_nextToken 77 = .ok (.ifCond .eq 29, 3) := by decide +kernel
theorem dX5_nextToken_80 : decode cX5_nextToken 80 = .ok (.aload_n 0, 1) := by decide +kernel
theorem dX5_nextToken_81 : decode cX5_nextToken 81 = .ok (.getfield 156, 3) := by decide +kernel
theorem dX5_nextToken_84 : decode cX5_nextToken 84 = .ok (.iconst 2, 1) := by decide +kernel
theorem dX5_nextToken_85 : decode cX5_nextToken 85 = .ok (.if_icmp .ge 21, 3) := by decide +kernel
theorem dX5_nextToken_88 : decode cX5_nextToken 88 = .ok (.aload_n 0, 1) := by decide +kernel
theorem dX5_nextToken_89 : decode cX5_nextToken 89 = .ok (.iconst 1, 1) := by decide +kernel
theorem dX5_nextToken_90 : decode cX5_nextToken 90 = .ok (.putfield 156, 3) := by decide +kernel
theorem dX5_nextToken_93 : decode cX5_nextToken 93 = .ok (.aload_n 0, 1) := by decide +kernel
theorem dX5_nextToken_94 : decode cX5_nextToken 94 = .ok (.dup, 1) := by decide +kernel
theorem dX5_nextToken_95 : decode cX5_nextToken 95 = .ok (.getfield 144, 3) := by decide +kernel
theorem dX5_nextToken_98 : decode cX5_nextToken 98 = .ok (.iconst 1, 1) := by decide +kernel
theorem dX5_nextToken_99 : decode cX5_nextToken 99 = .ok (.iadd, 1) := by decide +kernel
theorem dX5_nextToken_100 : decode cX5_nextToken 100 = .ok (.putfield 144, 3) := by decide +kernel
theorem dX5_nextToken_103 : decode cX5_nextToken 103 = .ok (.goto (-44), 3) := by decide +kernel
theorem dX5_nextToken_106 : decode cX5_nextToken 106 = .ok (.aload_n 0, 1) := by decide +kernel
theorem dX5_nextToken_107 : decode cX5_nextToken 107 = .ok (.aload_n 0, 1) := by decide +kernel
theorem dX5_nextToken_108 : decode cX5_nextToken 108 = .ok (.getfield 144, 3) := by decide +kernel
theorem dX5_nextToken_111 : decode cX5_nextToken 111 = .ok (.invokevirtual 147, 3) := by decide +kernel
theorem dX5_nextToken_114 : decode cX5_nextToken 114 = .ok (.i2l, 1) := by decide +kernel
theorem dX5_nextToken_115 : decode cX5_nextToken 115 = .ok (.ldc2_w 163, 3) := by decide +kernel
theorem dX5_nextToken_118 : decode cX5_nextToken 118 = .ok (.ldc2_w 165, 3) := by decide +kernel
theorem dX5_nextToken_121 : decode cX5_nextToken 121 = .ok (.invokestatic 54, 3) := by decide +kernel
theorem dX5_nextToken_124 : decode cX5_nextToken 124 = .ok (.ifCond .eq 69, 3) := by decide +kernel
theorem dX5_nextToken_127 : decode cX5_nextToken 127 = .ok (.aload_n 0, 1) := by decide +kernel
theorem dX5_nextToken_128 : decode cX5_nextToken 128 = .ok (.getfield 156, 3) := by decide +kernel
theorem dX5_nextToken_131 : decode cX5_nextToken 131 = .ok (.iconst 1, 1) := by decide +kernel
theorem dX5_nextToken_132 : decode cX5_nextToken 132 = .ok (.if_icmp .eq 61, 3) := by decide +kernel
theorem dX5_nextToken_135 : decode cX5_nextToken 135 = .ok (.aload_n 0, 1) := by decide +kernel
theorem dX5_nextToken_136 : decode cX5_nextToken 136 = .ok (.iconst 2, 1) := by decide +kernel
theorem dX5_nextToken_137 : decode cX5_nextToken 137 = .ok (.putfield 156, 3) := by decide +kernel
theorem dX5_nextToken_140 : decode cX5_nextToken 140 = .ok (.aload_n 0, 1) := by decide +kernel
theorem dX5_nextToken_141 : decode cX5_nextToken 141 = .ok (.aload_n 0, 1) := by decide +kernel
theorem dX5_nextToken_142 : decode cX5_nextToken 142 = .ok (.getfield 153, 3) := by decide +kernel
theorem dX5_nextToken_145 : decode cX5_nextToken 145 = .ok (.bipush 99, 2) := by decide +kernel
theorem dX5_nextToken_147 : decode cX5_nextToken 147 = .ok (.if_icmp .le 10, 3) := by decide +kernel
theorem dX5_nextToken_150 : decode cX5_nextToken 150 = .ok (.aload_n 0, 1) := by decide +kernel
theorem dX5_nextToken_151 : decode cX5_nextToken 151 = .ok (.getfield 153, 3) := by decide +kernel
theorem dX5_nextToken_154 : decode cX5_nextToken 154 = .ok (.goto 23, 3) := by decide +kernel
theorem dX5_nextToken_157 : decode cX5_nextToken 157 = .ok (.bipush 10, 2) := by decide +kernel
theorem dX5_nextToken_159 : decode cX5_nextToken 159 = .ok (.aload_n 0, 1) := by decide +kernel
theorem dX5_nextToken_160 : decode cX5_nextToken 160 = .ok (.getfield 153, 3) := by decide +kernel
theorem dX5_nextToken_163 : decode cX5_nextToken 163 = .ok (.imul, 1) := by decide +kernel
theorem dX5_nextToken_164 : decode cX5_nextToken 164 = .ok (.aload_n 0, 1) := by decide +kernel
theorem dX5_nextToken_165 : decode cX5_nextToken 165 = .ok (.getfield 26, 3) := by decide +kernel
theorem dX5_nextToken_168 : decode cX5_nextToken 168 = .ok (.aload_n 0, 1) := by decide +kernel
theorem dX5_nextToken_169 : decode cX5_nextToken 169 = .ok (.getfield 144, 3) := by decide +kernel
theorem dX5_nextToken_172 : decode cX5_nextToken 172 = .ok (.iaload, 1) := by decide +kernel
theorem dX5_nextToken_173 : decode cX5_nextToken 173 = .ok (.iadd, 1) := by decide +kernel
theorem dX5_nextToken_174 : decode cX5_nextToken 174 = .ok (.bipush 48, 2) := by decide +kernel
theorem dX5_nextToken_176 : decode cX5_nextToken 176 = .ok (.isub, 1) := by decide +kernel
theorem dX5_nextToken_177 : decode cX5_nextToken 177 = .ok (.putfield 153, 3) := by decide +kernel
theorem dX5_nextToken_180 : decode cX5_nextToken 180 = .ok (.aload_n 0, 1) := by decide +kernel
theorem dX5_nextToken_181 : decode cX5_nextToken 181 = .ok (.dup, 1) := by decide +kernel
theorem dX5_nextToken_182 : decode cX5_nextToken 182 = .ok (.getfield 144, 3) := by decide +kernel
theorem dX5_nextToken_185 : decode cX5_nextToken 185 = .ok (.iconst 1, 1) := by decide +kernel
theorem dX5_nextToken_186 : decode cX5_nextToken 186 = .ok (.iadd, 1) := by decide +kernel
theorem dX5_nextToken_187 : decode cX5_nextToken 187 = .ok (.putfield 144, 3) := by decide +kernel
theorem dX5_nextToken_190 : decode cX5_nextToken 190 = .ok (.goto (-84), 3) := by decide +kernel
theorem dX5_nextToken_193 : decode cX5_nextToken 193 = .ok (.aload_n 0, 1) := by decide +kernel
theorem dX5_nextToken_194 : decode cX5_nextToken 194 = .ok (.getfield 156, 3) := by decide +kernel
theorem dX5_nextToken_197 : decode cX5_nextToken 197 = .ok (.iconst 2, 1) := by decide +kernel
theorem dX5_nextToken_198 : decode cX5_nextToken 198 = .ok (.if_icmp .ne 24, 3) := by decide +kernel
theorem dX5_nextToken_201 : decode cX5_nextToken 201 = .ok (.aload_n 0, 1) := by decide +kernel
theorem dX5_nextToken_202 : decode cX5_nextToken 202 = .ok (.getfield 144, 3) := by decide +kernel
theorem dX5_nextToken_205 : decode cX5_nextToken 205 = .ok (.aload_n 0, 1) := by decide +kernel
theorem dX5_nextToken_206 : decode cX5_nextToken 206 = .ok (.getfield 150, 3) := by decide +kernel
theorem dX5_nextToken_209 : decode cX5_nextToken 209 = .ok (.isub, 1) := by decide +kernel
theorem dX5_nextToken_210 : decode cX5_nextToken 210 = .ok (.iconst 2, 1) := by decide +kernel
theorem dX5_nextToken_211 : decode cX5_nextToken 211 = .ok (.if_icmp .le 11, 3) := by decide +kernel
theorem dX5_nextToken_214 : decode cX5_nextToken 214 = .ok (.aload_n 0, 1) := by decide +kernel
theorem dX5_nextToken_215 : decode cX5_nextToken 215 = .ok (.iconst 0, 1) := by decide +kernel
theorem dX5_nextToken_216 : decode cX5_nextToken 216 = .ok (.putfield 156, 3) := by decide +kernel
theorem dX5_nextToken_219 : decode cX5_nextToken 219 = .ok (.goto 42, 3) := by decide +kernel
theorem dX5_nextToken_222 : decode cX5_nextToken 222 = .ok (.aload_n 0, 1) := by decide +kernel
theorem dX5_nextToken_223 : decode cX5_nextToken 223 = .ok (.getfield 156, 3) := by decide +kernel
theorem dX5_nextToken_226 : decode cX5_nextToken 226 = .ok (.ifCond .ne 35, 3) := by decide +kernel
theorem dX5_nextToken_229 : decode cX5_nextToken 229 = .ok (.aload_n 0, 1) := by decide +kernel
theorem dX5_nextToken_230 : decode cX5_nextToken 230 = .ok (.aload_n 0, 1) := by decide +kernel
theorem dX5_nextToken_231 : decode cX5_nextToken 231 = .ok (.aload_n 0, 1) := by decide +kernel
theorem dX5_nextToken_232 : decode cX5_nextToken 232 = .ok (.getfield 144, 3) := by decide +kernel
theorem dX5_nextToken_235 : decode cX5_nextToken 235 = .ok (.invokevirtual 147, 3) := by decide +kernel
theorem dX5_nextToken_238 : decode cX5_nextToken 238 = .ok (.bipush 59, 2) := by decide +kernel
theorem dX5_nextToken_240 : decode cX5_nextToken 240 = .ok (.if_icmp .ne 7, 3) := by decide +kernel
theorem dX5_nextToken_243 : decode cX5_nextToken 243 = .ok (.iconst 4, 1) := by decide +kernel
theorem dX5_nextToken_244 : decode cX5_nextToken 244 = .ok (.goto 4, 3) := by decide +kernel
theorem dX5_nextToken_247 : decode cX5_nextToken 247 = .ok (.iconst 0, 1) := by decide +kernel
theorem dX5_nextToken_248 : decode cX5_nextToken 248 = .ok (.putfield 156, 3) := by decide +kernel
theorem dX5_nextToken_251 : decode cX5_nextToken 251 = .ok (.aload_n 0, 1) := by decide +kernel
theorem dX5_nextToken_252 : decode cX5_nextToken 252 = .ok (.dup, 1) := by decide +kernel
theorem dX5_nextToken_253 : decode cX5_nextToken 253 = .ok (.getfield 144, 3) := by decide +kernel
theorem dX5_nextToken_256 : decode cX5_nextToken 256 = .ok (.iconst 1, 1) := by decide +kernel
theorem dX5_nextToken_257 : decode cX5_nextToken 257 = .ok (.iadd, 1) := by decide +kernel
theorem dX5_nextToken_258 : decode cX5_nextToken 258 = .ok (.putfield 144, 3) := by decide +kernel
theorem dX5_nextToken_261 : decode cX5_nextToken 261 = .ok (.return_, 1) := by decide +kernel
theorem dX5_isWord_0 : decode cX5_isWord 0 = .ok (.aload_n 0, 1) := by decide +kernel
theorem dX5_isWord_1 : decode cX5_isWord 1 = .ok (.getfield 156, 3) := by decide +kernel
theorem dX5_isWord_4 : decode cX5_isWord 4 = .ok (.iconst 1, 1) := by decide +kernel
theorem dX5_isWord_5 : decode cX5_isWord 5 = .ok (.if_icmp .ne 105, 3) := by decide +kernel
theorem dX5_isWord_8 : decode cX5_isWord 8 = .ok (.aload_n 0, 1) := by decide +kernel
theorem dX5_isWord_9 : decode cX5_isWord 9 = .ok (.getfield 144, 3) := by decide +kernel
theorem dX5_isWord_12 : decode cX5_isWord 12 = .ok (.aload_n 0, 1) := by decide +kernel
theorem dX5_isWord_13 : decode cX5_isWord 13 = .ok (.getfield 150, 3) := by decide +kernel
theorem dX5_isWord_16 : decode cX5_isWord 16 = .ok (.isub, 1) := by decide +kernel
theorem dX5_isWord_17 : decode cX5_isWord 17 = .ok (.iload 6, 2) := by decide +kernel
theorem dX5_isWord_19 : decode cX5_isWord 19 = .ok (.ifCond .ne 7, 3) := by decide +kernel
theorem dX5_isWord_22 : decode cX5_isWord 22 = .ok (.iconst 5, 1) := by decide +kernel
theorem dX5_isWord_23 : decode cX5_isWord 23 = .ok (.goto 5, 3) := by decide +kernel
theorem dX5_isWord_26 : decode cX5_isWord 26 = .ok (.bipush 6, 2) := by decide +kernel
theorem dX5_isWord_28 : decode cX5_isWord 28 = .ok (.if_icmp .ne 82, 3) := by decide +kernel
theorem dX5_isWord_31 : decode cX5_isWord 31 = .ok (.aload_n 0, 1) := by decide +kernel
theorem dX5_isWord_32 : decode cX5_isWord 32 = .ok (.getfield 26, 3) := by decide +kernel
theorem dX5_isWord_35 : decode cX5_isWord 35 = .ok (.aload_n 0, 1) := by decide +kernel
theorem dX5_isWord_36 : decode cX5_isWord 36 = .ok (.getfield 150, 3) := by decide +kernel
theorem dX5_isWord_39 : decode cX5_isWord 39 = .ok (.iaload, 1) := by decide +kernel
theorem dX5_isWord_40 : decode cX5_isWord 40 = .ok (.iload_n 1, 1) := by decide +kernel
theorem dX5_isWord_41 : decode cX5_isWord 41 = .ok (.if_icmp .ne 69, 3) := by decide +kernel
theorem dX5_isWord_44 : decode cX5_isWord 44 = .ok (.aload_n 0, 1) := by decide +kernel
theorem dX5_isWord_45 : decode cX5_isWord 45 = .ok (.getfield 26, 3) := by decide +kernel
theorem dX5_isWord_48 : decode cX5_isWord 48 = .ok (.aload_n 0, 1) := by decide +kernel
theorem dX5_isWord_49 : decode cX5_isWord 49 = .ok (.getfield 150, 3) := by decide +kernel
theorem dX5_isWord_52 : decode cX5_isWord 52 = .ok (.iconst 1, 1) := by decide +kernel
theorem dX5_isWord_53 : decode cX5_isWord 53 = .ok (.iadd, 1) := by decide +kernel
theorem dX5_isWord_54 : decode cX5_isWord 54 = .ok (.iaload, 1) := by decide +kernel
theorem dX5_isWord_55 : decode cX5_isWord 55 = .ok (.iload_n 2, 1) := by decide +kernel
theorem dX5_isWord_56 : decode cX5_isWord 56 = .ok (.if_icmp .ne 54, 3) := by decide +kernel
theorem dX5_isWord_59 : decode cX5_isWord 59 = .ok (.aload_n 0, 1) := by decide +kernel
theorem dX5_isWord_60 : decode cX5_isWord 60 = .ok (.getfield 26, 3) := by decide +kernel
theorem dX5_isWord_63 : decode cX5_isWord 63 = .ok (.aload_n 0, 1) := by decide +kernel
theorem dX5_isWord_64 : decode cX5_isWord 64 = .ok (.getfield 150, 3) := by decide +kernel
theorem dX5_isWord_67 : decode cX5_isWord 67 = .ok (.iconst 2, 1) := by decide +kernel
theorem dX5_isWord_68 : decode cX5_isWord 68 = .ok (.iadd, 1) := by decide +kernel
theorem dX5_isWord_69 : decode cX5_isWord 69 = .ok (.iaload, 1) := by decide +kernel
theorem dX5_isWord_70 : decode cX5_isWord 70 = .ok (.iload_n 3, 1) := by decide +kernel
theorem dX5_isWord_71 : decode cX5_isWord 71 = .ok (.if_icmp .ne 39, 3) := by decide +kernel
theorem dX5_isWord_74 : decode cX5_isWord 74 = .ok (.aload_n 0, 1) := by decide +kernel
theorem dX5_isWord_75 : decode cX5_isWord 75 = .ok (.getfield 26, 3) := by decide +kernel
theorem dX5_isWord_78 : decode cX5_isWord 78 = .ok (.aload_n 0, 1) := by decide +kernel
theorem dX5_isWord_79 : decode cX5_isWord 79 = .ok (.getfield 150, 3) := by decide +kernel
theorem dX5_isWord_82 : decode cX5_isWord 82 = .ok (.iconst 3, 1) := by decide +kernel
theorem dX5_isWord_83 : decode cX5_isWord 83 = .ok (.iadd, 1) := by decide +kernel
theorem dX5_isWord_84 : decode cX5_isWord 84 = .ok (.iaload, 1) := by decide +kernel
theorem dX5_isWord_85 : decode cX5_isWord 85 = .ok (.iload 4, 2) := by decide +kernel
theorem dX5_isWord_87 : decode cX5_isWord 87 = .ok (.if_icmp .ne 23, 3) := by decide +kernel
theorem dX5_isWord_90 : decode cX5_isWord 90 = .ok (.aload_n 0, 1) := by decide +kernel
theorem dX5_isWord_91 : decode cX5_isWord 91 = .ok (.getfield 26, 3) := by decide +kernel
theorem dX5_isWord_94 : decode cX5_isWord 94 = .ok (.aload_n 0, 1) := by decide +kernel
theorem dX5_isWord_95 : decode cX5_isWord 95 = .ok (.getfield 150, 3) := by decide +kernel
theorem dX5_isWord_98 : decode cX5_isWord 98 = .ok (.iconst 4, 1) := by decide +kernel
theorem dX5_isWord_99 : decode cX5_isWord 99 = .ok (.iadd, 1) := by decide +kernel
theorem dX5_isWord_100 : decode cX5_isWord 100 = .ok (.iaload, 1) := by decide +kernel
theorem dX5_isWord_101 : decode cX5_isWord 101 = .ok (.iload 5, 2) := by decide +kernel
theorem dX5_isWord_103 : decode cX5_isWord 103 = .ok (.if_icmp .ne 7, 3) := by decide +kernel
theorem dX5_isWord_106 : decode cX5_isWord 106 = .ok (.iconst 1, 1) := by decide +kernel
theorem dX5_isWord_107 : decode cX5_isWord 107 = .ok (.goto 4, 3) := by decide +kernel
theorem dX5_isWord_110 : decode cX5_isWord 110 = .ok (.iconst 0, 1) := by decide +kernel
theorem dX5_isWord_111 : decode cX5_isWord 111 = .ok (.istore 7, 2) := by decide +kernel
theorem dX5_isWord_113 : decode cX5_isWord 113 = .ok (.iload 7, 2) := by decide +kernel
theorem dX5_isWord_115 : decode cX5_isWord 115 = .ok (.ifCond .eq 28, 3) := by decide +kernel
theorem dX5_isWord_118 : decode cX5_isWord 118 = .ok (.iload 6, 2) := by decide +kernel
theorem dX5_isWord_120 : decode cX5_isWord 120 = .ok (.ifCond .eq 19, 3) := by decide +kernel
theorem dX5_isWord_123 : decode cX5_isWord 123 = .ok (.aload_n 0, 1) := by decide +kernel
theorem dX5_isWord_124 : decode cX5_isWord 124 = .ok (.getfield 26, 3) := by decide +kernel
theorem dX5_isWord_127 : decode cX5_isWord 127 = .ok (.aload_n 0, 1) := by decide +kernel
theorem dX5_isWord_128 : decode cX5_isWord 128 = .ok (.getfield 150, 3) := by decide +kernel
theorem dX5_isWord_131 : decode cX5_isWord 131 = .ok (.iconst 5, 1) := by decide +kernel
theorem dX5_isWord_132 : decode cX5_isWord 132 = .ok (.iadd, 1) := by decide +kernel
theorem dX5_isWord_133 : decode cX5_isWord 133 = .ok (.iaload, 1) := by decide +kernel
theorem dX5_isWord_134 : decode cX5_isWord 134 = .ok (.iload 6, 2) := by decide +kernel
theorem dX5_isWord_136 : decode cX5_isWord 136 = .ok (.if_icmp .ne 7, 3) := by decide +kernel
theorem dX5_isWord_139 : decode cX5_isWord 139 = .ok (.iconst 1, 1) := by decide +kernel
theorem dX5_isWord_140 : decode cX5_isWord 140 = .ok (.goto 4, 3) := by decide +kernel
theorem dX5_isWord_143 : decode cX5_isWord 143 = .ok (.iconst 0, 1) := by decide +kernel
theorem dX5_isWord_144 : decode cX5_isWord 144 = .ok (.ireturn, 1) := by decide +kernel
theorem dX5_reads_0 : decode cX5_reads 0 = .ok (.aload_n 0, 1) := by decide +kernel
theorem dX5_reads_1 : decode cX5_reads 1 = .ok (.invokevirtual 167, 3) := by decide +kernel
theorem dX5_reads_4 : decode cX5_reads 4 = .ok (.aload_n 0, 1) := by decide +kernel
theorem dX5_reads_5 : decode cX5_reads 5 = .ok (.getfield 29, 3) := by decide +kernel
theorem dX5_reads_8 : decode cX5_reads 8 = .ok (.iload_n 1, 1) := by decide +kernel
theorem dX5_reads_9 : decode cX5_reads 9 = .ok (.aload_n 0, 1) := by decide +kernel
theorem dX5_reads_10 : decode cX5_reads 10 = .ok (.getfield 153, 3) := by decide +kernel
theorem dX5_reads_13 : decode cX5_reads 13 = .ok (.iastore, 1) := by decide +kernel
theorem dX5_reads_14 : decode cX5_reads 14 = .ok (.aload_n 0, 1) := by decide +kernel
theorem dX5_reads_15 : decode cX5_reads 15 = .ok (.getfield 156, 3) := by decide +kernel
theorem dX5_reads_18 : decode cX5_reads 18 = .ok (.iconst 2, 1) := by decide +kernel
theorem dX5_reads_19 : decode cX5_reads 19 = .ok (.if_icmp .ne 15, 3) := by decide +kernel
theorem dX5_reads_22 : decode cX5_reads 22 = .ok (.aload_n 0, 1) := by decide +kernel
theorem dX5_reads_23 : decode cX5_reads 23 = .ok (.getfield 153, 3) := by decide +kernel
theorem dX5_reads_26 : decode cX5_reads 26 = .ok (.iload_n 2, 1) := by decide +kernel
theorem dX5_reads_27 : decode cX5_reads 27 = .ok (.if_icmp .gt 7, 3) := by decide +kernel
theorem dX5_reads_30 : decode cX5_reads 30 = .ok (.iconst 1, 1) := by decide +kernel
theorem dX5_reads_31 : decode cX5_reads 31 = .ok (.goto 4, 3) := by decide +kernel
theorem dX5_reads_34 : decode cX5_reads 34 = .ok (.iconst 0, 1) := by decide +kernel
theorem dX5_reads_35 : decode cX5_reads 35 = .ok (.ireturn, 1) := by decide +kernel
theorem dX5_readItem_0 : decode cX5_readItem 0 = .ok (.iload_n 1, 1) := by decide +kernel
theorem dX5_readItem_1 : decode cX5_readItem 1 = .ok (.ifCond .eq 57, 3) := by decide +kernel
theorem dX5_readItem_4 : decode cX5_readItem 4 = .ok (.aload_n 0, 1) := by decide +kernel
theorem dX5_readItem_5 : decode cX5_readItem 5 = .ok (.bipush 116, 2) := by decide +kernel
theorem dX5_readItem_7 : decode cX5_readItem 7 = .ok (.bipush 97, 2) := by decide +kernel
theorem dX5_readItem_9 : decode cX5_readItem 9 = .ok (.bipush 98, 2) := by decide +kernel
theorem dX5_readItem_11 : decode cX5_readItem 11 = .ok (.bipush 108, 2) := by decide +kernel
theorem dX5_readItem_13 : decode cX5_readItem 13 = .ok (.bipush 101, 2) := by decide +kernel
theorem dX5_readItem_15 : decode cX5_readItem 15 = .ok (.iconst 0, 1) := by decide +kernel
theorem dX5_readItem_16 : decode cX5_readItem 16 = .ok (.invokevirtual 170, 3) := by decide +kernel
theorem dX5_readItem_19 : decode cX5_readItem 19 = .ok (.ifCond .eq 17, 3) := by decide +kernel
theorem dX5_readItem_22 : decode cX5_readItem 22 = .ok (.aload_n 0, 1) := by decide +kernel
theorem dX5_readItem_23 : decode cX5_readItem 23 = .ok (.iconst 0, 1) := by decide +kernel
theorem dX5_readItem_24 : decode cX5_readItem 24 = .ok (.bipush 12, 2) := by decide +kernel
theorem dX5_readItem_26 : decode cX5_readItem 26 = .ok (.invokevirtual 174, 3) := by decide +kernel
theorem dX5_readItem_29 : decode cX5_readItem 29 = .ok (.ifCond .eq 7, 3) := by decide +kernel
theorem dX5_readItem_32 : decode cX5_readItem 32 = .ok (.iconst 1, 1) := by decide +kernel
theorem dX5_readItem_33 : decode cX5_readItem 33 = .ok (.goto 4, 3) := by decide +kernel
theorem dX5_readItem_36 : decode cX5_readItem 36 = .ok (.iconst 0, 1) := by decide +kernel
theorem dX5_readItem_37 : decode cX5_readItem 37 = .ok (.istore_n 3, 1) := by decide +kernel
theorem dX5_readItem_38 : decode cX5_readItem 38 = .ok (.iload_n 3, 1) := by decide +kernel
theorem dX5_readItem_39 : decode cX5_readItem 39 = .ok (.ifCond .eq 17, 3) := by decide +kernel
theorem dX5_readItem_42 : decode cX5_readItem 42 = .ok (.iload_n 2, 1) := by decide +kernel
theorem dX5_readItem_43 : decode cX5_readItem 43 = .ok (.ifCond .eq 13, 3) := by decide +kernel
theorem dX5_readItem_46 : decode cX5_readItem 46 = .ok (.aload_n 0, 1) := by decide +kernel
theorem dX5_readItem_47 : decode cX5_readItem 47 = .ok (.aload_n 0, 1) := by decide +kernel
theorem dX5_readItem_48 : decode cX5_readItem 48 = .ok (.getfield 29, 3) := by decide +kernel
theorem dX5_readItem_51 : decode cX5_readItem 51 = .ok (.iconst 0, 1) := by decide +kernel
theorem dX5_readItem_52 : decode cX5_readItem 52 = .ok (.iaload, 1) := by decide +kernel
theorem dX5_readItem_53 : decode cX5_readItem 53 = .ok (.invokevirtual 116, 3) := by decide +kernel
theorem dX5_readItem_56 : decode cX5_readItem 56 = .ok (.iload_n 3, 1) := by decide +kernel
theorem dX5_readItem_57 : decode cX5_readItem 57 = .ok (.ireturn, 1) := by decide +kernel
theorem dX5_readItem_58 : decode cX5_readItem 58 = .ok (.aload_n 0, 1) := by decide +kernel
theorem dX5_readItem_59 : decode cX5_readItem 59 = .ok (.bipush 112, 2) := by decide +kernel
theorem dX5_readItem_61 : decode cX5_readItem 61 = .ok (.bipush 111, 2) := by decide +kernel
theorem dX5_readItem_63 : decode cX5_readItem 63 = .ok (.bipush 116, 2) := by decide +kernel
theorem dX5_readItem_65 : decode cX5_readItem 65 = .ok (.bipush 97, 2) := by decide +kernel
theorem dX5_readItem_67 : decode cX5_readItem 67 = .ok (.bipush 116, 2) := by decide +kernel
theorem dX5_readItem_69 : decode cX5_readItem 69 = .ok (.bipush 111, 2) := by decide +kernel
theorem dX5_readItem_71 : decode cX5_readItem 71 = .ok (.invokevirtual 170, 3) := by decide +kernel
theorem dX5_readItem_74 : decode cX5_readItem 74 = .ok (.ifCond .eq 117, 3) := by decide +kernel
theorem dX5_readItem_77 : decode cX5_readItem 77 = .ok (.aload_n 0, 1) := by decide +kernel
theorem dX5_readItem_78 : decode cX5_readItem 78 = .ok (.iconst 0, 1) := by decide +kernel
theorem dX5_readItem_79 : decode cX5_readItem 79 = .ok (.iconst 1, 1) := by decide +kernel
theorem dX5_readItem_80 : decode cX5_readItem 80 = .ok (.invokevirtual 174, 3) := by decide +kernel
theorem dX5_readItem_83 : decode cX5_readItem 83 = .ok (.ifCond .eq 47, 3) := by decide +kernel
theorem dX5_readItem_86 : decode cX5_readItem 86 = .ok (.aload_n 0, 1) := by decide +kernel
theorem dX5_readItem_87 : decode cX5_readItem 87 = .ok (.iconst 1, 1) := by decide +kernel
theorem dX5_readItem_88 : decode cX5_readItem 88 = .ok (.bipush 15, 2) := by decide +kernel
theorem dX5_readItem_90 : decode cX5_readItem 90 = .ok (.invokevirtual 174, 3) := by decide +kernel
theorem dX5_readItem_93 : decode cX5_readItem 93 = .ok (.ifCond .eq 37, 3) := by decide +kernel
theorem dX5_readItem_96 : decode cX5_readItem 96 = .ok (.aload_n 0, 1) := by decide +kernel
theorem dX5_readItem_97 : decode cX5_readItem 97 = .ok (.iconst 2, 1) := by decide +kernel
theorem dX5_readItem_98 : decode cX5_readItem 98 = .ok (.bipush 15, 2) := by decide +kernel
theorem dX5_readItem_100 : decode cX5_readItem 100 = .ok (.invokevirtual 174, 3) := by decide +kernel
theorem dX5_readItem_103 : decode cX5_readItem 103 = .ok (.ifCond .eq 27, 3) := by decide +kernel
theorem dX5_readItem_106 : decode cX5_readItem 106 = .ok (.aload_n 0, 1) := by decide +kernel
theorem dX5_readItem_107 : decode cX5_readItem 107 = .ok (.iconst 3, 1) := by decide +kernel
theorem dX5_readItem_108 : decode cX5_readItem 108 = .ok (.bipush 15, 2) := by decide +kernel
theorem dX5_readItem_110 : decode cX5_readItem 110 = .ok (.invokevirtual 174, 3) := by decide +kernel
theorem dX5_readItem_113 : decode cX5_readItem 113 = .ok (.ifCond .eq 17, 3) := by decide +kernel
theorem dX5_readItem_116 : decode cX5_readItem 116 = .ok (.aload_n 0, 1) := by decide +kernel
theorem dX5_readItem_117 : decode cX5_readItem 117 = .ok (.iconst 4, 1) := by decide +kernel
theorem dX5_readItem_118 : decode cX5_readItem 118 = .ok (.bipush 15, 2) := by decide +kernel
theorem dX5_readItem_120 : decode cX5_readItem 120 = .ok (.invokevirtual 174, 3) := by decide +kernel
theorem dX5_readItem_123 : decode cX5_readItem 123 = .ok (.ifCond .eq 7, 3) := by decide +kernel
theorem dX5_readItem_126 : decode cX5_readItem 126 = .ok (.iconst 1, 1) := by decide +kernel
theorem dX5_readItem_127 : decode cX5_readItem 127 = .ok (.goto 4, 3) := by decide +kernel
theorem dX5_readItem_130 : decode cX5_readItem 130 = .ok (.iconst 0, 1) := by decide +kernel
theorem dX5_readItem_131 : decode cX5_readItem 131 = .ok (.istore_n 3, 1) := by decide +kernel
theorem dX5_readItem_132 : decode cX5_readItem 132 = .ok (.iload_n 3, 1) := by decide +kernel
theorem dX5_readItem_133 : decode cX5_readItem 133 = .ok (.ifCond .eq 56, 3) := by decide +kernel
theorem dX5_readItem_136 : decode cX5_readItem 136 = .ok (.iload_n 2, 1) := by decide +kernel
theorem dX5_readItem_137 : decode cX5_readItem 137 = .ok (.ifCond .eq 52, 3) := by decide +kernel
theorem dX5_readItem_140 : decode cX5_readItem 140 = .ok (.aload_n 0, 1) := by decide +kernel
theorem dX5_readItem_141 : decode cX5_readItem 141 = .ok (.getfield 7, 3) := by decide +kernel
theorem dX5_readItem_144 : decode cX5_readItem 144 = .ok (.bipush 65, 2) := by decide +kernel
theorem dX5_readItem_146 : decode cX5_readItem 146 = .ok (.aload_n 0, 1) := by decide +kernel
theorem dX5_readItem_147 : decode cX5_readItem 147 = .ok (.getfield 29, 3) := by decide +kernel
theorem dX5_readItem_150 : decode cX5_readItem 150 = .ok (.iconst 0, 1) := by decide +kernel
theorem dX5_readItem_151 : decode cX5_readItem 151 = .ok (.iaload, 1) := by decide +kernel
theorem dX5_readItem_152 : decode cX5_readItem 152 = .ok (.iadd, 1) := by decide +kernel
theorem dX5_readItem_153 : decode cX5_readItem 153 = .ok (.aload_n 0, 1) := by decide +kernel
theorem dX5_readItem_154 : decode cX5_readItem 154 = .ok (.getfield 29, 3) := by decide +kernel
theorem dX5_readItem_157 : decode cX5_readItem 157 = .ok (.iconst 1, 1) := by decide +kernel
theorem dX5_readItem_158 : decode cX5_readItem 158 = .ok (.iaload, 1) := by decide +kernel
theorem dX5_readItem_159 : decode cX5_readItem 159 = .ok (.aload_n 0, 1) := by decide +kernel
theorem dX5_readItem_160 : decode cX5_readItem 160 = .ok (.getfield 29, 3) := by decide +kernel
theorem dX5_readItem_163 : decode cX5_readItem 163 = .ok (.iconst 2, 1) := by decide +kernel
theorem dX5_readItem_164 : decode cX5_readItem 164 = .ok (.iaload, 1) := by decide +kernel
theorem dX5_readItem_165 : decode cX5_readItem 165 = .ok (.iconst 4, 1) := by decide +kernel
theorem dX5_readItem_166 : decode cX5_readItem 166 = .ok (.ishl, 1) := by decide +kernel
theorem dX5_readItem_167 : decode cX5_readItem 167 = .ok (.ior, 1) := by decide +kernel
theorem dX5_readItem_168 : decode cX5_readItem 168 = .ok (.aload_n 0, 1) := by decide +kernel
theorem dX5_readItem_169 : decode cX5_readItem 169 = .ok (.getfield 29, 3) := by decide +kernel
theorem dX5_readItem_172 : decode cX5_readItem 172 = .ok (.iconst 3, 1) := by decide +kernel
theorem dX5_readItem_173 : decode cX5_readItem 173 = .ok (.iaload, 1) := by decide +kernel
theorem dX5_readItem_174 : decode cX5_readItem 174 = .ok (.bipush 8, 2) := by decide +kernel
theorem dX5_readItem_176 : decode cX5_readItem 176 = .ok (.ishl, 1) := by decide +kernel
theorem dX5_readItem_177 : decode cX5_readItem 177 = .ok (.ior, 1) := by decide +kernel
theorem dX5_readItem_178 : decode cX5_readItem 178 = .ok (.aload_n 0, 1) := by decide +kernel
theorem dX5_readItem_179 : decode cX5_readItem 179 = .ok (.getfield 29, 3) := by decide +kernel
theorem dX5_readItem_182 : decode cX5_readItem 182 = .ok (.iconst 4, 1) := by decide +kernel
theorem dX5_readItem_183 : decode cX5_readItem 183 = .ok (.iaload, 1) := by decide +kernel
theorem dX5_readItem_184 : decode cX5_readItem 184 = .ok (.bipush 12, 2) := by decide +kernel
theorem dX5_readItem_186 : decode cX5_readItem 186 = .ok (.ishl, 1) := by decide +kernel
theorem dX5_readItem_187 : decode cX5_readItem 187 = .ok (.ior, 1) := by decide +kernel
theorem dX5_readItem_188 : decode cX5_readItem 188 = .ok (.iastore, 1) := by decide +kernel
theorem dX5_readItem_189 : decode cX5_readItem 189 = .ok (.iload_n 3, 1) := by decide +kernel
theorem dX5_readItem_190 : decode cX5_readItem 190 = .ok (.ireturn, 1) := by decide +kernel
theorem dX5_readItem_191 : decode cX5_readItem 191 = .ok (.aload_n 0, 1) := by decide +kernel
theorem dX5_readItem_192 : decode cX5_readItem 192 = .ok (.bipush 112, 2) := by decide +kernel
theorem dX5_readItem_194 : decode cX5_readItem 194 = .ok (.bipush 114, 2) := by decide +kernel
theorem dX5_readItem_196 : decode cX5_readItem 196 = .ok (.bipush 105, 2) := by decide +kernel
theorem dX5_readItem_198 : decode cX5_readItem 198 = .ok (.bipush 110, 2) := by decide +kernel
theorem dX5_readItem_200 : decode cX5_readItem 200 = .ok (.bipush 116, 2) := by decide +kernel
theorem dX5_readItem_202 : decode cX5_readItem 202 = .ok (.iconst 0, 1) := by decide +kernel
theorem dX5_readItem_203 : decode cX5_readItem 203 = .ok (.invokevirtual 170, 3) := by decide +kernel
theorem dX5_readItem_206 : decode cX5_readItem 206 = .ok (.ifCond .eq 54, 3) := by decide +kernel
theorem dX5_readItem_209 : decode cX5_readItem 209 = .ok (.aload_n 0, 1) := by decide +kernel
theorem dX5_readItem_210 : decode cX5_readItem 210 = .ok (.iconst 0, 1) := by decide +kernel
theorem dX5_readItem_211 : decode cX5_readItem 211 = .ok (.iconst 5, 1) := by decide +kernel
theorem dX5_readItem_212 : decode cX5_readItem 212 = .ok (.invokevirtual 174, 3) := by decide +kernel
theorem dX5_readItem_215 : decode cX5_readItem 215 = .ok (.ifCond .eq 45, 3) := by decide +kernel
theorem dX5_readItem_218 : decode cX5_readItem 218 = .ok (.aload_n 0, 1) := by decide +kernel
theorem dX5_readItem_219 : decode cX5_readItem 219 = .ok (.iconst 1, 1) := by decide +kernel
theorem dX5_readItem_220 : decode cX5_readItem 220 = .ok (.iconst 1, 1) := by decide +kernel
theorem dX5_readItem_221 : decode cX5_readItem 221 = .ok (.invokevirtual 174, 3) := by decide +kernel
theorem dX5_readItem_224 : decode cX5_readItem 224 = .ok (.ifCond .eq 36, 3) := by decide +kernel
theorem dX5_readItem_227 : decode cX5_readItem 227 = .ok (.aload_n 0, 1) := by decide +kernel
theorem dX5_readItem_228 : decode cX5_readItem 228 = .ok (.iconst 2, 1) := by decide +kernel
theorem dX5_readItem_229 : decode cX5_readItem 229 = .ok (.bipush 7, 2) := by decide +kernel
theorem dX5_readItem_231 : decode cX5_readItem 231 = .ok (.invokevirtual 174, 3) := by decide +kernel
theorem dX5_readItem_234 : decode cX5_readItem 234 = .ok (.ifCond .eq 26, 3) := by decide +kernel
theorem dX5_readItem_237 : decode cX5_readItem 237 = .ok (.aload_n 0, 1) := by decide +kernel
theorem dX5_readItem_238 : decode cX5_readItem 238 = .ok (.iconst 3, 1) := by decide +kernel
theorem dX5_readItem_239 : decode cX5_readItem 239 = .ok (.bipush 7, 2) := by decide +kernel
theorem dX5_readItem_241 : decode cX5_readItem 241 = .ok (.invokevirtual 174, 3) := by decide +kernel
theorem dX5_readItem_244 : decode cX5_readItem 244 = .ok (.ifCond .eq 16, 3) := by decide +kernel
theorem dX5_readItem_247 : decode cX5_readItem 247 = .ok (.aload_n 0, 1) := by decide +kernel
theorem dX5_readItem_248 : decode cX5_readItem 248 = .ok (.iconst 4, 1) := by decide +kernel
theorem dX5_readItem_249 : decode cX5_readItem 249 = .ok (.iconst 3, 1) := by decide +kernel
theorem dX5_readItem_250 : decode cX5_readItem 250 = .ok (.invokevirtual 174, 3) := by decide +kernel
theorem dX5_readItem_253 : decode cX5_readItem 253 = .ok (.ifCond .eq 7, 3) := by decide +kernel
theorem dX5_readItem_256 : decode cX5_readItem 256 = .ok (.iconst 1, 1) := by decide +kernel
theorem dX5_readItem_257 : decode cX5_readItem 257 = .ok (.goto 4, 3) := by decide +kernel
theorem dX5_readItem_260 : decode cX5_readItem 260 = .ok (.iconst 0, 1) := by decide +kernel
theorem dX5_readItem_261 : decode cX5_readItem 261 = .ok (.istore_n 3, 1) := by decide +kernel
theorem dX5_readItem_262 : decode cX5_readItem 262 = .ok (.iload_n 3, 1) := by decide +kernel
theorem dX5_readItem_263 : decode cX5_readItem 263 = .ok (.ifCond .eq 52, 3) := by decide +kernel
theorem dX5_readItem_266 : decode cX5_readItem 266 = .ok (.iload_n 2, 1) := by decide +kernel
theorem dX5_readItem_267 : decode cX5_readItem 267 = .ok (.ifCond .eq 48, 3) := by decide +kernel
theorem dX5_readItem_270 : decode cX5_readItem 270 = .ok (.aload_n 0, 1) := by decide +kernel
theorem dX5_readItem_271 : decode cX5_readItem 271 = .ok (.getfield 7, 3) := by decide +kernel
theorem dX5_readItem_274 : decode cX5_readItem 274 = .ok (.bipush 64, 2) := by decide +kernel
theorem dX5_readItem_276 : decode cX5_readItem 276 = .ok (.iaload, 1) := by decide +kernel
theorem dX5_readItem_277 : decode cX5_readItem 277 = .ok (.ifCond .le 38, 3) := by decide +kernel
theorem dX5_readItem_280 : decode cX5_readItem 280 = .ok (.aload_n 0, 1) := by decide +kernel
theorem dX5_readItem_281 : decode cX5_readItem 281 = .ok (.aload_n 0, 1) := by decide +kernel
theorem dX5_readItem_282 : decode cX5_readItem 282 = .ok (.getfield 29, 3) := by decide +kernel
theorem dX5_readItem_285 : decode cX5_readItem 285 = .ok (.iconst 0, 1) := by decide +kernel
theorem dX5_readItem_286 : decode cX5_readItem 286 = .ok (.iaload, 1) := by decide +kernel
theorem dX5_readItem_287 : decode cX5_readItem 287 = .ok (.aload_n 0, 1) := by decide +kernel
theorem dX5_readItem_288 : decode cX5_readItem 288 = .ok (.getfield 29, 3) := by decide +kernel
theorem dX5_readItem_291 : decode cX5_readItem 291 = .ok (.iconst 1, 1) := by decide +kernel
theorem dX5_readItem_292 : decode cX5_readItem 292 = .ok (.iaload, 1) := by decide +kernel
theorem dX5_readItem_293 : decode cX5_readItem 293 = .ok (.aload_n 0, 1) := by decide +kernel
theorem dX5_readItem_294 : decode cX5_readItem 294 = .ok (.getfield 29, 3) := by decide +kernel
theorem dX5_readItem_297 : decode cX5_readItem 297 = .ok (.iconst 2, 1) := by decide +kernel
theorem dX5_readItem_298 : decode cX5_readItem 298 = .ok (.iaload, 1) := by decide +kernel
theorem dX5_readItem_299 : decode cX5_readItem 299 = .ok (.aload_n 0, 1) := by decide +kernel
theorem dX5_readItem_300 : decode cX5_readItem 300 = .ok (.getfield 29, 3) := by decide +kernel
theorem dX5_readItem_303 : decode cX5_readItem 303 = .ok (.iconst 3, 1) := by decide +kernel
theorem dX5_readItem_304 : decode cX5_readItem 304 = .ok (.iaload, 1) := by decide +kernel
theorem dX5_readItem_305 : decode cX5_readItem 305 = .ok (.aload_n 0, 1) := by decide +kernel
theorem dX5_readItem_306 : decode cX5_readItem 306 = .ok (.getfield 29, 3) := by decide +kernel
theorem dX5_readItem_309 : decode cX5_readItem 309 = .ok (.iconst 4, 1) := by decide +kernel
theorem dX5_readItem_310 : decode cX5_readItem 310 = .ok (.iaload, 1) := by decide +kernel
theorem dX5_readItem_311 : decode cX5_readItem 311 = .ok (.invokevirtual 132, 3) := by decide +kernel
theorem dX5_readItem_314 : decode cX5_readItem 314 = .ok (.pop, 1) := by decide +kernel
theorem dX5_readItem_315 : decode cX5_readItem 315 = .ok (.iload_n 3, 1) := by decide +kernel
theorem dX5_readItem_316 : decode cX5_readItem 316 = .ok (.ireturn, 1) := by decide +kernel
theorem dX5_readText_0 : decode cX5_readText 0 = .ok (.aload_n 0, 1) := by decide +kernel
theorem dX5_readText_1 : decode cX5_readText 1 = .ok (.iconst 0, 1) := by decide +kernel
theorem dX5_readText_2 : decode cX5_readText 2 = .ok (.putfield 144, 3) := by decide +kernel
theorem dX5_readText_5 : decode cX5_readText 5 = .ok (.iconst 0, 1) := by decide +kernel
theorem dX5_readText_6 : decode cX5_readText 6 = .ok (.istore_n 2, 1) := by decide +kernel
theorem dX5_readText_7 : decode cX5_readText 7 = .ok (.aload_n 0, 1) := by decide +kernel
theorem dX5_readText_8 : decode cX5_readText 8 = .ok (.invokevirtual 167, 3) := by decide +kernel
theorem dX5_readText_11 : decode cX5_readText 11 = .ok (.iload_n 2, 1) := by decide +kernel
theorem dX5_readText_12 : decode cX5_readText 12 = .ok (.ifCond .eq 11, 3) := by decide +kernel
theorem dX5_readText_15 : decode cX5_readText 15 = .ok (.aload_n 0, 1) := by decide +kernel
theorem dX5_readText_16 : decode cX5_readText 16 = .ok (.getfield 156, 3) := by decide +kernel
theorem dX5_readText_19 : decode cX5_readText 19 = .ok (.iconst 3, 1) := by decide +kernel
theorem dX5_readText_20 : decode cX5_readText 20 = .ok (.if_icmp .eq 46, 3) := by decide +kernel
theorem dX5_readText_23 : decode cX5_readText 23 = .ok (.aload_n 0, 1) := by decide +kernel
theorem dX5_readText_24 : decode cX5_readText 24 = .ok (.iload_n 2, 1) := by decide +kernel
theorem dX5_readText_25 : decode cX5_readText 25 = .ok (.ifCond .ne 7, 3) := by decide +kernel
theorem dX5_readText_28 : decode cX5_readText 28 = .ok (.iconst 1, 1) := by decide +kernel
theorem dX5_readText_29 : decode cX5_readText 29 = .ok (.goto 4, 3) := by decide +kernel
theorem dX5_readText_32 : decode cX5_readText 32 = .ok (.iconst 0, 1) := by decide +kernel
theorem dX5_readText_33 : decode cX5_readText 33 = .ok (.iload_n 1, 1) := by decide +kernel
theorem dX5_readText_34 : decode cX5_readText 34 = .ok (.invokevirtual 177, 3) := by decide +kernel
theorem dX5_readText_37 : decode cX5_readText 37 = .ok (.ifCond .ne 5, 3) := by decide +kernel
theorem dX5_readText_40 : decode cX5_readText 40 = .ok (.iconst (-1), 1) := by decide +kernel
theorem dX5_readText_41 : decode cX5_readText 41 = .ok (.ireturn, 1) := by decide +kernel
theorem dX5_readText_42 : decode cX5_readText 42 = .ok (.aload_n 0, 1) := by decide +kernel
theorem dX5_readText_43 : decode cX5_readText 43 = .ok (.invokevirtual 167, 3) := by decide +kernel
theorem dX5_readText_46 : decode cX5_readText 46 = .ok (.aload_n 0, 1) := by decide +kernel
theorem dX5_readText_47 : decode cX5_readText 47 = .ok (.getfield 156, 3) := by decide +kernel
theorem dX5_readText_50 : decode cX5_readText 50 = .ok (.iconst 4, 1) := by decide +kernel
theorem dX5_readText_51 : decode cX5_readText 51 = .ok (.if_icmp .eq 5, 3) := by decide +kernel
theorem dX5_readText_54 : decode cX5_readText 54 = .ok (.iconst (-1), 1) := by decide +kernel
theorem dX5_readText_55 : decode cX5_readText 55 = .ok (.ireturn, 1) := by decide +kernel
theorem dX5_readText_56 : decode cX5_readText 56 = .ok (.iinc 2 1, 3) := by decide +kernel
theorem dX5_readText_59 : decode cX5_readText 59 = .ok (.aload_n 0, 1) := by decide +kernel
theorem dX5_readText_60 : decode cX5_readText 60 = .ok (.invokevirtual 167, 3) := by decide +kernel
theorem dX5_readText_63 : decode cX5_readText 63 = .ok (.goto (-52), 3) := by decide +kernel
theorem dX5_readText_66 : decode cX5_readText 66 = .ok (.iload_n 2, 1) := by decide +kernel
theorem dX5_readText_67 : decode cX5_readText 67 = .ok (.ireturn, 1) := by decide +kernel
theorem dX5_read_0 : decode cX5_read 0 = .ok (.aload_n 0, 1) := by decide +kernel
theorem dX5_read_1 : decode cX5_read 1 = .ok (.iconst 0, 1) := by decide +kernel
theorem dX5_read_2 : decode cX5_read 2 = .ok (.invokevirtual 181, 3) := by decide +kernel
theorem dX5_read_5 : decode cX5_read 5 = .ok (.ifCond .ge 11, 3) := by decide +kernel
theorem dX5_read_8 : decode cX5_read 8 = .ok (.bipush (-10), 2) := by decide +kernel
theorem dX5_read_10 : decode cX5_read 10 = .ok (.aload_n 0, 1) := by decide +kernel
theorem dX5_read_11 : decode cX5_read 11 = .ok (.getfield 150, 3) := by decide +kernel
theorem dX5_read_14 : decode cX5_read 14 = .ok (.isub, 1) := by decide +kernel
theorem dX5_read_15 : decode cX5_read 15 = .ok (.ireturn, 1) := by decide +kernel
theorem dX5_read_16 : decode cX5_read 16 = .ok (.aload_n 0, 1) := by decide +kernel
theorem dX5_read_17 : decode cX5_read 17 = .ok (.iconst 1, 1) := by decide +kernel
theorem dX5_read_18 : decode cX5_read 18 = .ok (.invokevirtual 181, 3) := by decide +kernel
theorem dX5_read_21 : decode cX5_read 21 = .ok (.ireturn, 1) := by decide +kernel
theorem dX5_dark_0 : decode cX5_dark 0 = .ok (.iload_n 1, 1) := by decide +kernel
theorem dX5_dark_1 : decode cX5_dark 1 = .ok (.iload_n 2, 1) := by decide +kernel
theorem dX5_dark_2 : decode cX5_dark 2 = .ok (.invokestatic 66, 3) := by decide +kernel
theorem dX5_dark_5 : decode cX5_dark 5 = .ok (.ifCond .eq 19, 3) := by decide +kernel
theorem dX5_dark_8 : decode cX5_dark 8 = .ok (.aload_n 0, 1) := by decide +kernel
theorem dX5_dark_9 : decode cX5_dark 9 = .ok (.getfield 7, 3) := by decide +kernel
theorem dX5_dark_12 : decode cX5_dark 12 = .ok (.iconst 0, 1) := by decide +kernel
theorem dX5_dark_13 : decode cX5_dark 13 = .ok (.bipush 8, 2) := by decide +kernel
theorem dX5_dark_15 : decode cX5_dark 15 = .ok (.iload_n 2, 1) := by decide +kernel
theorem dX5_dark_16 : decode cX5_dark 16 = .ok (.imul, 1) := by decide +kernel
theorem dX5_dark_17 : decode cX5_dark 17 = .ok (.iadd, 1) := by decide +kernel
theorem dX5_dark_18 : decode cX5_dark 18 = .ok (.iload_n 1, 1) := by decide +kernel
theorem dX5_dark_19 : decode cX5_dark 19 = .ok (.iadd, 1) := by decide +kernel
theorem dX5_dark_20 : decode cX5_dark 20 = .ok (.iaload, 1) := by decide +kernel
theorem dX5_dark_21 : decode cX5_dark 21 = .ok (.goto 7, 3) := by decide +kernel
theorem dX5_dark_24 : decode cX5_dark 24 = .ok (.aload_n 0, 1) := by decide +kernel
theorem dX5_dark_25 : decode cX5_dark 25 = .ok (.invokevirtual 110, 3) := by decide +kernel
theorem dX5_dark_28 : decode cX5_dark 28 = .ok (.ireturn, 1) := by decide +kernel
theorem dX5_looks_0 : decode cX5_looks 0 = .ok (.iload_n 1, 1) := by decide +kernel
theorem dX5_looks_1 : decode cX5_looks 1 = .ok (.invokestatic 62, 3) := by decide +kernel
theorem dX5_looks_4 : decode cX5_looks 4 = .ok (.ifCond .eq 24, 3) := by decide +kernel
theorem dX5_looks_7 : decode cX5_looks 7 = .ok (.iload_n 2, 1) := by decide +kernel
theorem dX5_looks_8 : decode cX5_looks 8 = .ok (.i2l, 1) := by decide +kernel
theorem dX5_looks_9 : decode cX5_looks 9 = .ok (.lconst 0, 1) := by decide +kernel
theorem dX5_looks_10 : decode cX5_looks 10 = .ok (.ldc2_w 70, 3) := by decide +kernel
theorem dX5_looks_13 : decode cX5_looks 13 = .ok (.invokestatic 54, 3) := by decide +kernel
theorem dX5_looks_16 : decode cX5_looks 16 = .ok (.ifCond .eq 12, 3) := by decide +kernel
theorem dX5_looks_19 : decode cX5_looks 19 = .ok (.aload_n 0, 1) := by decide +kernel
theorem dX5_looks_20 : decode cX5_looks 20 = .ok (.iload_n 1, 1) := by decide +kernel
theorem dX5_looks_21 : decode cX5_looks 21 = .ok (.iload_n 2, 1) := by decide +kernel
theorem dX5_looks_22 : decode cX5_looks 22 = .ok (.invokevirtual 90, 3) := by decide +kernel
theorem dX5_looks_25 : decode cX5_looks 25 = .ok (.goto 7, 3) := by decide +kernel
theorem dX5_looks_28 : decode cX5_looks 28 = .ok (.aload_n 0, 1) := by decide +kernel
theorem dX5_looks_29 : decode cX5_looks 29 = .ok (.invokevirtual 110, 3) := by decide +kernel
theorem dX5_looks_32 : decode cX5_looks 32 = .ok (.ireturn, 1) := by decide +kernel
theorem dX5_alike_0 : decode cX5_alike 0 = .ok (.iload_n 1, 1) := by decide +kernel
theorem dX5_alike_1 : decode cX5_alike 1 = .ok (.invokestatic 62, 3) := by decide +kernel
theorem dX5_alike_4 : decode cX5_alike 4 = .ok (.ifCond .ne 8, 3) := by decide +kernel
theorem dX5_alike_7 : decode cX5_alike 7 = .ok (.aload_n 0, 1) := by decide +kernel
theorem dX5_alike_8 : decode cX5_alike 8 = .ok (.invokevirtual 110, 3) := by decide +kernel
theorem dX5_alike_11 : decode cX5_alike 11 = .ok (.ireturn, 1) := by decide +kernel
theorem dX5_alike_12 : decode cX5_alike 12 = .ok (.iconst 0, 1) := by decide +kernel
theorem dX5_alike_13 : decode cX5_alike 13 = .ok (.istore_n 2, 1) := by decide +kernel
theorem dX5_alike_14 : decode cX5_alike 14 = .ok (.iconst 0, 1) := by decide +kernel
theorem dX5_alike_15 : decode cX5_alike 15 = .ok (.istore_n 3, 1) := by decide +kernel
theorem dX5_alike_16 : decode cX5_alike 16 = .ok (.iload_n 3, 1) := by decide +kernel
theorem dX5_alike_17 : decode cX5_alike 17 = .ok (.iconst 4, 1) := by decide +kernel
theorem dX5_alike_18 : decode cX5_alike 18 = .ok (.if_icmp .ge 34, 3) := by decide +kernel
theorem dX5_alike_21 : decode cX5_alike 21 = .ok (.iload_n 2, 1) := by decide +kernel
theorem dX5_alike_22 : decode cX5_alike 22 = .ok (.aload_n 0, 1) := by decide +kernel
theorem dX5_alike_23 : decode cX5_alike 23 = .ok (.iload_n 1, 1) := by decide +kernel
theorem dX5_alike_24 : decode cX5_alike 24 = .ok (.iload_n 3, 1) := by decide +kernel
theorem dX5_alike_25 : decode cX5_alike 25 = .ok (.invokevirtual 90, 3) := by decide +kernel
theorem dX5_alike_28 : decode cX5_alike 28 = .ok (.aload_n 0, 1) := by decide +kernel
theorem dX5_alike_29 : decode cX5_alike 29 = .ok (.iload_n 1, 1) := by decide +kernel
theorem dX5_alike_30 : decode cX5_alike 30 = .ok (.iconst 0, 1) := by decide +kernel
theorem dX5_alike_31 : decode cX5_alike 31 = .ok (.invokevirtual 90, 3) := by decide +kernel
theorem dX5_alike_34 : decode cX5_alike 34 = .ok (.if_icmp .ne 9, 3) := by decide +kernel
theorem dX5_alike_37 : decode cX5_alike 37 = .ok (.iconst 1, 1) := by decide +kernel
theorem dX5_alike_38 : decode cX5_alike 38 = .ok (.iload_n 3, 1) := by decide +kernel
theorem dX5_alike_39 : decode cX5_alike 39 = .ok (.ishl, 1) := by decide +kernel
theorem dX5_alike_40 : decode cX5_alike 40 = .ok (.goto 4, 3) := by decide +kernel
theorem dX5_alike_43 : decode cX5_alike 43 = .ok (.iconst 0, 1) := by decide +kernel
theorem dX5_alike_44 : decode cX5_alike 44 = .ok (.ior, 1) := by decide +kernel
theorem dX5_alike_45 : decode cX5_alike 45 = .ok (.istore_n 2, 1) := by decide +kernel
theorem dX5_alike_46 : decode cX5_alike 46 = .ok (.iinc 3 1, 3) := by decide +kernel
theorem dX5_alike_49 : decode cX5_alike 49 = .ok (.goto (-33), 3) := by decide +kernel
theorem dX5_alike_52 : decode cX5_alike 52 = .ok (.iload_n 2, 1) := by decide +kernel
theorem dX5_alike_53 : decode cX5_alike 53 = .ok (.ireturn, 1) := by decide +kernel
theorem dX5_adds_0 : decode cX5_adds 0 = .ok (.iload_n 1, 1) := by decide +kernel
theorem dX5_adds_1 : decode cX5_adds 1 = .ok (.iload_n 2, 1) := by decide +kernel
theorem dX5_adds_2 : decode cX5_adds 2 = .ok (.iload_n 3, 1) := by decide +kernel
theorem dX5_adds_3 : decode cX5_adds 3 = .ok (.iload 4, 2) := by decide +kernel
theorem dX5_adds_5 : decode cX5_adds 5 = .ok (.iload 5, 2) := by decide +kernel
theorem dX5_adds_7 : decode cX5_adds 7 = .ok (.invokestatic 125, 3) := by decide +kernel
theorem dX5_adds_10 : decode cX5_adds 10 = .ok (.ifCond .ne 8, 3) := by decide +kernel
theorem dX5_adds_13 : decode cX5_adds 13 = .ok (.aload_n 0, 1) := by decide +kernel
theorem dX5_adds_14 : decode cX5_adds 14 = .ok (.invokevirtual 110, 3) := by decide +kernel
theorem dX5_adds_17 : decode cX5_adds 17 = .ok (.ireturn, 1) := by decide +kernel
theorem dX5_adds_18 : decode cX5_adds 18 = .ok (.aload_n 0, 1) := by decide +kernel
theorem dX5_adds_19 : decode cX5_adds 19 = .ok (.getfield 7, 3) := by decide +kernel
theorem dX5_adds_22 : decode cX5_adds 22 = .ok (.bipush 64, 2) := by decide +kernel
theorem dX5_adds_24 : decode cX5_adds 24 = .ok (.iaload, 1) := by decide +kernel
theorem dX5_adds_25 : decode cX5_adds 25 = .ok (.ifCond .ne 8, 3) := by decide +kernel
theorem dX5_adds_28 : decode cX5_adds 28 = .ok (.aload_n 0, 1) := by decide +kernel
theorem dX5_adds_29 : decode cX5_adds 29 = .ok (.invokevirtual 129, 3) := by decide +kernel
theorem dX5_adds_32 : decode cX5_adds 32 = .ok (.ireturn, 1) := by decide +kernel
theorem dX5_adds_33 : decode cX5_adds 33 = .ok (.aload_n 0, 1) := by decide +kernel
theorem dX5_adds_34 : decode cX5_adds 34 = .ok (.iload_n 1, 1) := by decide +kernel
theorem dX5_adds_35 : decode cX5_adds 35 = .ok (.aload_n 0, 1) := by decide +kernel
theorem dX5_adds_36 : decode cX5_adds 36 = .ok (.iload_n 2, 1) := by decide +kernel
theorem dX5_adds_37 : decode cX5_adds 37 = .ok (.iload 5, 2) := by decide +kernel
theorem dX5_adds_39 : decode cX5_adds 39 = .ok (.invokevirtual 90, 3) := by decide +kernel
theorem dX5_adds_42 : decode cX5_adds 42 = .ok (.iload_n 3, 1) := by decide +kernel
theorem dX5_adds_43 : decode cX5_adds 43 = .ok (.iload 4, 2) := by decide +kernel
theorem dX5_adds_45 : decode cX5_adds 45 = .ok (.aload_n 0, 1) := by decide +kernel
theorem dX5_adds_46 : decode cX5_adds 46 = .ok (.getfield 7, 3) := by decide +kernel
theorem dX5_adds_49 : decode cX5_adds 49 = .ok (.bipush 64, 2) := by decide +kernel
theorem dX5_adds_51 : decode cX5_adds 51 = .ok (.iaload, 1) := by decide +kernel
theorem dX5_adds_52 : decode cX5_adds 52 = .ok (.invokevirtual 93, 3) := by decide +kernel
theorem dX5_adds_55 : decode cX5_adds 55 = .ok (.aload_n 0, 1) := by decide +kernel
theorem dX5_adds_56 : decode cX5_adds 56 = .ok (.invokevirtual 97, 3) := by decide +kernel
theorem dX5_adds_59 : decode cX5_adds 59 = .ok (.ireturn, 1) := by decide +kernel
theorem dX5_force_0 : decode cX5_force 0 = .ok (.iload_n 1, 1) := by decide +kernel
theorem dX5_force_1 : decode cX5_force 1 = .ok (.i2l, 1) := by decide +kernel
theorem dX5_force_2 : decode cX5_force 2 = .ok (.lconst 0, 1) := by decide +kernel
theorem dX5_force_3 : decode cX5_force 3 = .ok (.ldc2_w 60, 3) := by decide +kernel
theorem dX5_force_6 : decode cX5_force 6 = .ok (.invokestatic 54, 3) := by decide +kernel
theorem dX5_force_9 : decode cX5_force 9 = .ok (.ifCond .eq 22, 3) := by decide +kernel
theorem dX5_force_12 : decode cX5_force 12 = .ok (.iload_n 2, 1) := by decide +kernel
theorem dX5_force_13 : decode cX5_force 13 = .ok (.i2l, 1) := by decide +kernel
theorem dX5_force_14 : decode cX5_force 14 = .ok (.lconst 0, 1) := by decide +kernel
theorem dX5_force_15 : decode cX5_force 15 = .ok (.ldc2_w 108, 3) := by decide +kernel
theorem dX5_force_18 : decode cX5_force 18 = .ok (.invokestatic 54, 3) := by decide +kernel
theorem dX5_force_21 : decode cX5_force 21 = .ok (.ifCond .eq 10, 3) := by decide +kernel
theorem dX5_force_24 : decode cX5_force 24 = .ok (.iload_n 3, 1) := by decide +kernel
theorem dX5_force_25 : decode cX5_force 25 = .ok (.invokestatic 62, 3) := by decide +kernel
theorem dX5_force_28 : decode cX5_force 28 = .ok (.ifCond .ne 8, 3) := by decide +kernel
theorem dX5_force_31 : decode cX5_force 31 = .ok (.aload_n 0, 1) := by decide +kernel
theorem dX5_force_32 : decode cX5_force 32 = .ok (.invokevirtual 110, 3) := by decide +kernel
theorem dX5_force_35 : decode cX5_force 35 = .ok (.ireturn, 1) := by decide +kernel
theorem dX5_force_36 : decode cX5_force 36 = .ok (.iload_n 3, 1) := by decide +kernel
theorem dX5_force_37 : decode cX5_force 37 = .ok (.ifCond .ne 11, 3) := by decide +kernel
theorem dX5_force_40 : decode cX5_force 40 = .ok (.iload_n 1, 1) := by decide +kernel
theorem dX5_force_41 : decode cX5_force 41 = .ok (.iload_n 2, 1) := by decide +kernel
theorem dX5_force_42 : decode cX5_force 42 = .ok (.invokestatic 83, 3) := by decide +kernel
theorem dX5_force_45 : decode cX5_force 45 = .ok (.goto 8, 3) := by decide +kernel
theorem dX5_force_48 : decode cX5_force 48 = .ok (.iload_n 1, 1) := by decide +kernel
theorem dX5_force_49 : decode cX5_force 49 = .ok (.iload_n 2, 1) := by decide +kernel
theorem dX5_force_50 : decode cX5_force 50 = .ok (.invokestatic 101, 3) := by decide +kernel
theorem dX5_force_53 : decode cX5_force 53 = .ok (.ireturn, 1) := by decide +kernel
theorem dX5_printsOf_0 : decode cX5_printsOf 0 = .ok (.iload_n 1, 1) := by decide +kernel
theorem dX5_printsOf_1 : decode cX5_printsOf 1 = .ok (.istore_n 3, 1) := by decide +kernel
theorem dX5_printsOf_2 : decode cX5_printsOf 2 = .ok (.iconst 0, 1) := by decide +kernel
theorem dX5_printsOf_3 : decode cX5_printsOf 3 = .ok (.istore 4, 2) := by decide +kernel
theorem dX5_printsOf_5 : decode cX5_printsOf 5 = .ok (.iload_n 3, 1) := by decide +kernel
theorem dX5_printsOf_6 : decode cX5_printsOf 6 = .ok (.ifCond .le 26, 3) := by decide +kernel
theorem dX5_printsOf_9 : decode cX5_printsOf 9 = .ok (.iload_n 0, 1) := by decide +kernel
theorem dX5_printsOf_10 : decode cX5_printsOf 10 = .ok (.iload_n 3, 1) := by decide +kernel
theorem dX5_printsOf_11 : decode cX5_printsOf 11 = .ok (.invokestatic 83, 3) := by decide +kernel
theorem dX5_printsOf_14 : decode cX5_printsOf 14 = .ok (.iload_n 2, 1) := by decide +kernel
theorem dX5_printsOf_15 : decode cX5_printsOf 15 = .ok (.if_icmp .lt 17, 3) := by decide +kernel
theorem dX5_printsOf_18 : decode cX5_printsOf 18 = .ok (.iinc 4 1, 3) := by decide +kernel
theorem dX5_printsOf_21 : decode cX5_printsOf 21 = .ok (.iload_n 3, 1) := by decide +kernel
theorem dX5_printsOf_22 : decode cX5_printsOf 22 = .ok (.iload_n 0, 1) := by decide +kernel
theorem dX5_printsOf_23 : decode cX5_printsOf 23 = .ok (.iload_n 3, 1) := by decide +kernel
theorem dX5_printsOf_24 : decode cX5_printsOf 24 = .ok (.invokestatic 101, 3) := by decide +kernel
theorem dX5_printsOf_27 : decode cX5_printsOf 27 = .ok (.isub, 1) := by decide +kernel
theorem dX5_printsOf_28 : decode cX5_printsOf 28 = .ok (.istore_n 3, 1) := by decide +kernel
theorem dX5_printsOf_29 : decode cX5_printsOf 29 = .ok (.goto (-24), 3) := by decide +kernel
theorem dX5_printsOf_32 : decode cX5_printsOf 32 = .ok (.iload 4, 2) := by decide +kernel
theorem dX5_printsOf_34 : decode cX5_printsOf 34 = .ok (.ireturn, 1) := by decide +kernel
theorem dX5_fromOne_0 : decode cX5_fromOne 0 = .ok (.iload_n 1, 1) := by decide +kernel
theorem dX5_fromOne_1 : decode cX5_fromOne 1 = .ok (.i2l, 1) := by decide +kernel
theorem dX5_fromOne_2 : decode cX5_fromOne 2 = .ok (.lconst 0, 1) := by decide +kernel
theorem dX5_fromOne_3 : decode cX5_fromOne 3 = .ok (.ldc2_w 60, 3) := by decide +kernel
theorem dX5_fromOne_6 : decode cX5_fromOne 6 = .ok (.invokestatic 54, 3) := by decide +kernel
theorem dX5_fromOne_9 : decode cX5_fromOne 9 = .ok (.ifCond .eq 27, 3) := by decide +kernel
theorem dX5_fromOne_12 : decode cX5_fromOne 12 = .ok (.iload_n 2, 1) := by decide +kernel
theorem dX5_fromOne_13 : decode cX5_fromOne 13 = .ok (.i2l, 1) := by decide +kernel
theorem dX5_fromOne_14 : decode cX5_fromOne 14 = .ok (.lconst 0, 1) := by decide +kernel
theorem dX5_fromOne_15 : decode cX5_fromOne 15 = .ok (.ldc2_w 108, 3) := by decide +kernel
theorem dX5_fromOne_18 : decode cX5_fromOne 18 = .ok (.invokestatic 54, 3) := by decide +kernel
theorem dX5_fromOne_21 : decode cX5_fromOne 21 = .ok (.ifCond .eq 15, 3) := by decide +kernel
theorem dX5_fromOne_24 : decode cX5_fromOne 24 = .ok (.iload_n 3, 1) := by decide +kernel
theorem dX5_fromOne_25 : decode cX5_fromOne 25 = .ok (.i2l, 1) := by decide +kernel
theorem dX5_fromOne_26 : decode cX5_fromOne 26 = .ok (.lconst 1, 1) := by decide +kernel
theorem dX5_fromOne_27 : decode cX5_fromOne 27 = .ok (.ldc2_w 185, 3) := by decide +kernel
theorem dX5_fromOne_30 : decode cX5_fromOne 30 = .ok (.invokestatic 54, 3) := by decide +kernel
theorem dX5_fromOne_33 : decode cX5_fromOne 33 = .ok (.ifCond .ne 8, 3) := by decide +kernel
theorem dX5_fromOne_36 : decode cX5_fromOne 36 = .ok (.aload_n 0, 1) := by decide +kernel
theorem dX5_fromOne_37 : decode cX5_fromOne 37 = .ok (.invokevirtual 110, 3) := by decide +kernel
theorem dX5_fromOne_40 : decode cX5_fromOne 40 = .ok (.ireturn, 1) := by decide +kernel
theorem dX5_fromOne_41 : decode cX5_fromOne 41 = .ok (.iload_n 1, 1) := by decide +kernel
theorem dX5_fromOne_42 : decode cX5_fromOne 42 = .ok (.iload_n 2, 1) := by decide +kernel
theorem dX5_fromOne_43 : decode cX5_fromOne 43 = .ok (.iload_n 3, 1) := by decide +kernel
theorem dX5_fromOne_44 : decode cX5_fromOne 44 = .ok (.invokestatic 187, 3) := by decide +kernel
theorem dX5_fromOne_47 : decode cX5_fromOne 47 = .ok (.ireturn, 1) := by decide +kernel
theorem dX5_dips_0 : decode cX5_dips 0 = .ok (.iload_n 1, 1) := by decide +kernel
theorem dX5_dips_1 : decode cX5_dips 1 = .ok (.i2l, 1) := by decide +kernel
theorem dX5_dips_2 : decode cX5_dips 2 = .ok (.lconst 0, 1) := by decide +kernel
theorem dX5_dips_3 : decode cX5_dips 3 = .ok (.ldc2_w 60, 3) := by decide +kernel
theorem dX5_dips_6 : decode cX5_dips 6 = .ok (.invokestatic 54, 3) := by decide +kernel
theorem dX5_dips_9 : decode cX5_dips 9 = .ok (.ifCond .eq 40, 3) := by decide +kernel
theorem dX5_dips_12 : decode cX5_dips 12 = .ok (.iload_n 2, 1) := by decide +kernel
theorem dX5_dips_13 : decode cX5_dips 13 = .ok (.i2l, 1) := by decide +kernel
theorem dX5_dips_14 : decode cX5_dips 14 = .ok (.lconst 0, 1) := by decide +kernel
theorem dX5_dips_15 : decode cX5_dips 15 = .ok (.ldc2_w 108, 3) := by decide +kernel
theorem dX5_dips_18 : decode cX5_dips 18 = .ok (.invokestatic 54, 3) := by decide +kernel
theorem dX5_dips_21 : decode cX5_dips 21 = .ok (.ifCond .eq 28, 3) := by decide +kernel
theorem dX5_dips_24 : decode cX5_dips 24 = .ok (.iload_n 3, 1) := by decide +kernel
theorem dX5_dips_25 : decode cX5_dips 25 = .ok (.i2l, 1) := by decide +kernel
theorem dX5_dips_26 : decode cX5_dips 26 = .ok (.lconst 1, 1) := by decide +kernel
theorem dX5_dips_27 : decode cX5_dips 27 = .ok (.ldc2_w 185, 3) := by decide +kernel
theorem dX5_dips_30 : decode cX5_dips 30 = .ok (.invokestatic 54, 3) := by decide +kernel
theorem dX5_dips_33 : decode cX5_dips 33 = .ok (.ifCond .eq 16, 3) := by decide +kernel
theorem dX5_dips_36 : decode cX5_dips 36 = .ok (.iload 4, 2) := by decide +kernel
theorem dX5_dips_38 : decode cX5_dips 38 = .ok (.i2l, 1) := by decide +kernel
theorem dX5_dips_39 : decode cX5_dips 39 = .ok (.lconst 0, 1) := by decide +kernel
theorem dX5_dips_40 : decode cX5_dips 40 = .ok (.ldc2_w 191, 3) := by decide +kernel
theorem dX5_dips_43 : decode cX5_dips 43 = .ok (.invokestatic 54, 3) := by decide +kernel
theorem dX5_dips_46 : decode cX5_dips 46 = .ok (.ifCond .ne 8, 3) := by decide +kernel
theorem dX5_dips_49 : decode cX5_dips 49 = .ok (.aload_n 0, 1) := by decide +kernel
theorem dX5_dips_50 : decode cX5_dips 50 = .ok (.invokevirtual 110, 3) := by decide +kernel
theorem dX5_dips_53 : decode cX5_dips 53 = .ok (.ireturn, 1) := by decide +kernel
theorem dX5_dips_54 : decode cX5_dips 54 = .ok (.iload_n 1, 1) := by decide +kernel
theorem dX5_dips_55 : decode cX5_dips 55 = .ok (.iload_n 2, 1) := by decide +kernel
theorem dX5_dips_56 : decode cX5_dips 56 = .ok (.iload_n 3, 1) := by decide +kernel
theorem dX5_dips_57 : decode cX5_dips 57 = .ok (.invokestatic 187, 3) := by decide +kernel
theorem dX5_dips_60 : decode cX5_dips 60 = .ok (.istore 5, 2) := by decide +kernel
theorem dX5_dips_62 : decode cX5_dips 62 = .ok (.iload 4, 2) := by decide +kernel
theorem dX5_dips_64 : decode cX5_dips 64 = .ok (.ifCond .ne 7, 3) := by decide +kernel
theorem dX5_dips_67 : decode cX5_dips 67 = .ok (.iconst 0, 1) := by decide +kernel
theorem dX5_dips_68 : decode cX5_dips 68 = .ok (.goto 22, 3) := by decide +kernel
theorem dX5_dips_71 : decode cX5_dips 71 = .ok (.iload 5, 2) := by decide +kernel
theorem dX5_dips_73 : decode cX5_dips 73 = .ok (.ifCond .ne 7, 3) := by decide +kernel
theorem dX5_dips_76 : decode cX5_dips 76 = .ok (.iconst (-1), 1) := by decide +kernel
theorem dX5_dips_77 : decode cX5_dips 77 = .ok (.goto 13, 3) := by decide +kernel
theorem dX5_dips_80 : decode cX5_dips 80 = .ok (.iload 4, 2) := by decide +kernel
theorem dX5_dips_82 : decode cX5_dips 82 = .ok (.iload 5, 2) := by decide +kernel
theorem dX5_dips_84 : decode cX5_dips 84 = .ok (.iadd, 1) := by decide +kernel
theorem dX5_dips_85 : decode cX5_dips 85 = .ok (.iconst 1, 1) := by decide +kernel
theorem dX5_dips_86 : decode cX5_dips 86 = .ok (.isub, 1) := by decide +kernel
theorem dX5_dips_87 : decode cX5_dips 87 = .ok (.iload 5, 2) := by decide +kernel
theorem dX5_dips_89 : decode cX5_dips 89 = .ok (.idiv, 1) := by decide +kernel
theorem dX5_dips_90 : decode cX5_dips 90 = .ok (.ireturn, 1) := by decide +kernel
theorem dX5_leftOf_0 : decode cX5_leftOf 0 = .ok (.iload_n 0, 1) := by decide +kernel
theorem dX5_leftOf_1 : decode cX5_leftOf 1 = .ok (.iload_n 1, 1) := by decide +kernel
theorem dX5_leftOf_2 : decode cX5_leftOf 2 = .ok (.iadd, 1) := by decide +kernel
theorem dX5_leftOf_3 : decode cX5_leftOf 3 = .ok (.iconst 4, 1) := by decide +kernel
theorem dX5_leftOf_4 : decode cX5_leftOf 4 = .ok (.iload_n 1, 1) := by decide +kernel
theorem dX5_leftOf_5 : decode cX5_leftOf 5 = .ok (.iadd, 1) := by decide +kernel
theorem dX5_leftOf_6 : decode cX5_leftOf 6 = .ok (.idiv, 1) := by decide +kernel
theorem dX5_leftOf_7 : decode cX5_leftOf 7 = .ok (.istore_n 2, 1) := by decide +kernel
theorem dX5_leftOf_8 : decode cX5_leftOf 8 = .ok (.iload_n 0, 1) := by decide +kernel
theorem dX5_leftOf_9 : decode cX5_leftOf 9 = .ok (.iconst 4, 1) := by decide +kernel
theorem dX5_leftOf_10 : decode cX5_leftOf 10 = .ok (.iload_n 2, 1) := by decide +kernel
theorem dX5_leftOf_11 : decode cX5_leftOf 11 = .ok (.imul, 1) := by decide +kernel
theorem dX5_leftOf_12 : decode cX5_leftOf 12 = .ok (.isub, 1) := by decide +kernel
theorem dX5_leftOf_13 : decode cX5_leftOf 13 = .ok (.iload_n 1, 1) := by decide +kernel
theorem dX5_leftOf_14 : decode cX5_leftOf 14 = .ok (.iload_n 2, 1) := by decide +kernel
theorem dX5_leftOf_15 : decode cX5_leftOf 15 = .ok (.iconst 1, 1) := by decide +kernel
theorem dX5_leftOf_16 : decode cX5_leftOf 16 = .ok (.isub, 1) := by decide +kernel
theorem dX5_leftOf_17 : decode cX5_leftOf 17 = .ok (.imul, 1) := by decide +kernel
theorem dX5_leftOf_18 : decode cX5_leftOf 18 = .ok (.isub, 1) := by decide +kernel
theorem dX5_leftOf_19 : decode cX5_leftOf 19 = .ok (.ireturn, 1) := by decide +kernel
theorem dX5_edge_0 : decode cX5_edge 0 = .ok (.iload_n 1, 1) := by decide +kernel
theorem dX5_edge_1 : decode cX5_edge 1 = .ok (.i2l, 1) := by decide +kernel
theorem dX5_edge_2 : decode cX5_edge 2 = .ok (.ldc2_w 193, 3) := by decide +kernel
theorem dX5_edge_5 : decode cX5_edge 5 = .ok (.ldc2_w 195, 3) := by decide +kernel
theorem dX5_edge_8 : decode cX5_edge 8 = .ok (.invokestatic 54, 3) := by decide +kernel
theorem dX5_edge_11 : decode cX5_edge 11 = .ok (.ifCond .eq 22, 3) := by decide +kernel
theorem dX5_edge_14 : decode cX5_edge 14 = .ok (.iload_n 2, 1) := by decide +kernel
theorem dX5_edge_15 : decode cX5_edge 15 = .ok (.i2l, 1) := by decide +kernel
theorem dX5_edge_16 : decode cX5_edge 16 = .ok (.lconst 0, 1) := by decide +kernel
theorem dX5_edge_17 : decode cX5_edge 17 = .ok (.ldc2_w 185, 3) := by decide +kernel
theorem dX5_edge_20 : decode cX5_edge 20 = .ok (.invokestatic 54, 3) := by decide +kernel
theorem dX5_edge_23 : decode cX5_edge 23 = .ok (.ifCond .eq 10, 3) := by decide +kernel
theorem dX5_edge_26 : decode cX5_edge 26 = .ok (.iload_n 3, 1) := by decide +kernel
theorem dX5_edge_27 : decode cX5_edge 27 = .ok (.invokestatic 62, 3) := by decide +kernel
theorem dX5_edge_30 : decode cX5_edge 30 = .ok (.ifCond .ne 8, 3) := by decide +kernel
theorem dX5_edge_33 : decode cX5_edge 33 = .ok (.aload_n 0, 1) := by decide +kernel
theorem dX5_edge_34 : decode cX5_edge 34 = .ok (.invokevirtual 110, 3) := by decide +kernel
theorem dX5_edge_37 : decode cX5_edge 37 = .ok (.ireturn, 1) := by decide +kernel
theorem dX5_edge_38 : decode cX5_edge 38 = .ok (.iload_n 3, 1) := by decide +kernel
theorem dX5_edge_39 : decode cX5_edge 39 = .ok (.ifCond .ne 13, 3) := by decide +kernel
theorem dX5_edge_42 : decode cX5_edge 42 = .ok (.iload_n 1, 1) := by decide +kernel
theorem dX5_edge_43 : decode cX5_edge 43 = .ok (.iload_n 2, 1) := by decide +kernel
theorem dX5_edge_44 : decode cX5_edge 44 = .ok (.iadd, 1) := by decide +kernel
theorem dX5_edge_45 : decode cX5_edge 45 = .ok (.iconst 4, 1) := by decide +kernel
theorem dX5_edge_46 : decode cX5_edge 46 = .ok (.iload_n 2, 1) := by decide +kernel
theorem dX5_edge_47 : decode cX5_edge 47 = .ok (.iadd, 1) := by decide +kernel
theorem dX5_edge_48 : decode cX5_edge 48 = .ok (.idiv, 1) := by decide +kernel
theorem dX5_edge_49 : decode cX5_edge 49 = .ok (.goto 8, 3) := by decide +kernel
theorem dX5_edge_52 : decode cX5_edge 52 = .ok (.iload_n 1, 1) := by decide +kernel
theorem dX5_edge_53 : decode cX5_edge 53 = .ok (.iload_n 2, 1) := by decide +kernel
theorem dX5_edge_54 : decode cX5_edge 54 = .ok (.invokestatic 197, 3) := by decide +kernel
theorem dX5_edge_57 : decode cX5_edge 57 = .ok (.ireturn, 1) := by decide +kernel
theorem dX5_gap_0 : decode cX5_gap 0 = .ok (.iload_n 1, 1) := by decide +kernel
theorem dX5_gap_1 : decode cX5_gap 1 = .ok (.i2l, 1) := by decide +kernel
theorem dX5_gap_2 : decode cX5_gap 2 = .ok (.ldc2_w 193, 3) := by decide +kernel
theorem dX5_gap_5 : decode cX5_gap 5 = .ok (.ldc2_w 195, 3) := by decide +kernel
theorem dX5_gap_8 : decode cX5_gap 8 = .ok (.invokestatic 54, 3) := by decide +kernel
theorem dX5_gap_11 : decode cX5_gap 11 = .ok (.ifCond .ne 8, 3) := by decide +kernel
theorem dX5_gap_14 : decode cX5_gap 14 = .ok (.aload_n 0, 1) := by decide +kernel
theorem dX5_gap_15 : decode cX5_gap 15 = .ok (.invokevirtual 110, 3) := by decide +kernel
theorem dX5_gap_18 : decode cX5_gap 18 = .ok (.ireturn, 1) := by decide +kernel
theorem dX5_gap_19 : decode cX5_gap 19 = .ok (.iconst 0, 1) := by decide +kernel
theorem dX5_gap_20 : decode cX5_gap 20 = .ok (.istore_n 2, 1) := by decide +kernel
theorem dX5_gap_21 : decode cX5_gap 21 = .ok (.iconst 1, 1) := by decide +kernel
theorem dX5_gap_22 : decode cX5_gap 22 = .ok (.istore_n 3, 1) := by decide +kernel
theorem dX5_gap_23 : decode cX5_gap 23 = .ok (.iload_n 3, 1) := by decide +kernel
theorem dX5_gap_24 : decode cX5_gap 24 = .ok (.bipush 9, 2) := by decide +kernel
theorem dX5_gap_26 : decode cX5_gap 26 = .ok (.if_icmp .gt 28, 3) := by decide +kernel
theorem dX5_gap_29 : decode cX5_gap 29 = .ok (.iload_n 1, 1) := by decide +kernel
theorem dX5_gap_30 : decode cX5_gap 30 = .ok (.iload_n 3, 1) := by decide +kernel
theorem dX5_gap_31 : decode cX5_gap 31 = .ok (.invokestatic 197, 3) := by decide +kernel
theorem dX5_gap_34 : decode cX5_gap 34 = .ok (.iload_n 1, 1) := by decide +kernel
theorem dX5_gap_35 : decode cX5_gap 35 = .ok (.iload_n 2, 1) := by decide +kernel
theorem dX5_gap_36 : decode cX5_gap 36 = .ok (.invokestatic 197, 3) := by decide +kernel
theorem dX5_gap_39 : decode cX5_gap 39 = .ok (.if_icmp .ge 7, 3) := by decide +kernel
theorem dX5_gap_42 : decode cX5_gap 42 = .ok (.iload_n 3, 1) := by decide +kernel
theorem dX5_gap_43 : decode cX5_gap 43 = .ok (.goto 4, 3) := by decide +kernel
theorem dX5_gap_46 : decode cX5_gap 46 = .ok (.iload_n 2, 1) := by decide +kernel
theorem dX5_gap_47 : decode cX5_gap 47 = .ok (.istore_n 2, 1) := by decide +kernel
theorem dX5_gap_48 : decode cX5_gap 48 = .ok (.iinc 3 1, 3) := by decide +kernel
theorem dX5_gap_51 : decode cX5_gap 51 = .ok (.goto (-28), 3) := by decide +kernel
theorem dX5_gap_54 : decode cX5_gap 54 = .ok (.iload_n 2, 1) := by decide +kernel
theorem dX5_gap_55 : decode cX5_gap 55 = .ok (.ireturn, 1) := by decide +kernel
theorem dX5_covers_0 : decode cX5_covers 0 = .ok (.iload_n 3, 1) := by decide +kernel
theorem dX5_covers_1 : decode cX5_covers 1 = .ok (.bipush 8, 2) := by decide +kernel
theorem dX5_covers_3 : decode cX5_covers 3 = .ok (.irem, 1) := by decide +kernel
theorem dX5_covers_4 : decode cX5_covers 4 = .ok (.iload_n 1, 1) := by decide +kernel
theorem dX5_covers_5 : decode cX5_covers 5 = .ok (.isub, 1) := by decide +kernel
theorem dX5_covers_6 : decode cX5_covers 6 = .ok (.istore 4, 2) := by decide +kernel
theorem dX5_covers_8 : decode cX5_covers 8 = .ok (.iload_n 3, 1) := by decide +kernel
theorem dX5_covers_9 : decode cX5_covers 9 = .ok (.bipush 8, 2) := by decide +kernel
theorem dX5_covers_11 : decode cX5_covers 11 = .ok (.idiv, 1) := by decide +kernel
theorem dX5_covers_12 : decode cX5_covers 12 = .ok (.iload_n 2, 1) := by decide +kernel
theorem dX5_covers_13 : decode cX5_covers 13 = .ok (.isub, 1) := by decide +kernel
theorem dX5_covers_14 : decode cX5_covers 14 = .ok (.istore 5, 2) := by decide +kernel
theorem dX5_covers_16 : decode cX5_covers 16 = .ok (.iload 4, 2) := by decide +kernel
theorem dX5_covers_18 : decode cX5_covers 18 = .ok (.i2l, 1) := by decide +kernel
theorem dX5_covers_19 : decode cX5_covers 19 = .ok (.lconst 0, 1) := by decide +kernel
theorem dX5_covers_20 : decode cX5_covers 20 = .ok (.ldc2_w 70, 3) := by decide +kernel
theorem dX5_covers_23 : decode cX5_covers 23 = .ok (.invokestatic 54, 3) := by decide +kernel
theorem dX5_covers_26 : decode cX5_covers 26 = .ok (.ifCond .eq 34, 3) := by decide +kernel
theorem dX5_covers_29 : decode cX5_covers 29 = .ok (.iload 5, 2) := by decide +kernel
theorem dX5_covers_31 : decode cX5_covers 31 = .ok (.i2l, 1) := by decide +kernel
theorem dX5_covers_32 : decode cX5_covers 32 = .ok (.lconst 0, 1) := by decide +kernel
theorem dX5_covers_33 : decode cX5_covers 33 = .ok (.ldc2_w 70, 3) := by decide +kernel
theorem dX5_covers_36 : decode cX5_covers 36 = .ok (.invokestatic 54, 3) := by decide +kernel
theorem dX5_covers_39 : decode cX5_covers 39 = .ok (.ifCond .eq 21, 3) := by decide +kernel
theorem dX5_covers_42 : decode cX5_covers 42 = .ok (.iload_n 0, 1) := by decide +kernel
theorem dX5_covers_43 : decode cX5_covers 43 = .ok (.iconst 4, 1) := by decide +kernel
theorem dX5_covers_44 : decode cX5_covers 44 = .ok (.iload 5, 2) := by decide +kernel
theorem dX5_covers_46 : decode cX5_covers 46 = .ok (.imul, 1) := by decide +kernel
theorem dX5_covers_47 : decode cX5_covers 47 = .ok (.iload 4, 2) := by decide +kernel
theorem dX5_covers_49 : decode cX5_covers 49 = .ok (.iadd, 1) := by decide +kernel
theorem dX5_covers_50 : decode cX5_covers 50 = .ok (.invokestatic 72, 3) := by decide +kernel
theorem dX5_covers_53 : decode cX5_covers 53 = .ok (.ifCond .eq 7, 3) := by decide +kernel
theorem dX5_covers_56 : decode cX5_covers 56 = .ok (.iconst 1, 1) := by decide +kernel
theorem dX5_covers_57 : decode cX5_covers 57 = .ok (.goto 4, 3) := by decide +kernel
theorem dX5_covers_60 : decode cX5_covers 60 = .ok (.iconst 0, 1) := by decide +kernel
theorem dX5_covers_61 : decode cX5_covers 61 = .ok (.ireturn, 1) := by decide +kernel
theorem dX5_numberOf_0 : decode cX5_numberOf 0 = .ok (.bipush 100, 2) := by decide +kernel
theorem dX5_numberOf_2 : decode cX5_numberOf 2 = .ok (.iload_n 0, 1) := by decide +kernel
theorem dX5_numberOf_3 : decode cX5_numberOf 3 = .ok (.imul, 1) := by decide +kernel
theorem dX5_numberOf_4 : decode cX5_numberOf 4 = .ok (.bipush 10, 2) := by decide +kernel
theorem dX5_numberOf_6 : decode cX5_numberOf 6 = .ok (.iload_n 1, 1) := by decide +kernel
theorem dX5_numberOf_7 : decode cX5_numberOf 7 = .ok (.imul, 1) := by decide +kernel
theorem dX5_numberOf_8 : decode cX5_numberOf 8 = .ok (.iadd, 1) := by decide +kernel
theorem dX5_numberOf_9 : decode cX5_numberOf 9 = .ok (.iload_n 2, 1) := by decide +kernel
theorem dX5_numberOf_10 : decode cX5_numberOf 10 = .ok (.iadd, 1) := by decide +kernel
theorem dX5_numberOf_11 : decode cX5_numberOf 11 = .ok (.ireturn, 1) := by decide +kernel
theorem dX5_hit_0 : decode cX5_hit 0 = .ok (.iload_n 1, 1) := by decide +kernel
theorem dX5_hit_1 : decode cX5_hit 1 = .ok (.invokestatic 62, 3) := by decide +kernel
theorem dX5_hit_4 : decode cX5_hit 4 = .ok (.ifCond .eq 10, 3) := by decide +kernel
theorem dX5_hit_7 : decode cX5_hit 7 = .ok (.iload_n 2, 1) := by decide +kernel
theorem dX5_hit_8 : decode cX5_hit 8 = .ok (.invokestatic 62, 3) := by decide +kernel
theorem dX5_hit_11 : decode cX5_hit 11 = .ok (.ifCond .ne 8, 3) := by decide +kernel
theorem dX5_hit_14 : decode cX5_hit 14 = .ok (.aload_n 0, 1) := by decide +kernel
theorem dX5_hit_15 : decode cX5_hit 15 = .ok (.invokevirtual 110, 3) := by decide +kernel
theorem dX5_hit_18 : decode cX5_hit 18 = .ok (.ireturn, 1) := by decide +kernel
theorem dX5_hit_19 : decode cX5_hit 19 = .ok (.iconst 0, 1) := by decide +kernel
theorem dX5_hit_20 : decode cX5_hit 20 = .ok (.istore_n 3, 1) := by decide +kernel
theorem dX5_hit_21 : decode cX5_hit 21 = .ok (.iconst (-1), 1) := by decide +kernel
theorem dX5_hit_22 : decode cX5_hit 22 = .ok (.istore 4, 2) := by decide +kernel
theorem dX5_hit_24 : decode cX5_hit 24 = .ok (.iconst 0, 1) := by decide +kernel
theorem dX5_hit_25 : decode cX5_hit 25 = .ok (.istore 5, 2) := by decide +kernel
theorem dX5_hit_27 : decode cX5_hit 27 = .ok (.iload 5, 2) := by decide +kernel
theorem dX5_hit_29 : decode cX5_hit 29 = .ok (.bipush 100, 2) := by decide +kernel
theorem dX5_hit_31 : decode cX5_hit 31 = .ok (.if_icmp .ge 114, 3) := by decide +kernel
theorem dX5_hit_34 : decode cX5_hit 34 = .ok (.iload 5, 2) := by decide +kernel
theorem dX5_hit_36 : decode cX5_hit 36 = .ok (.bipush 25, 2) := by decide +kernel
theorem dX5_hit_38 : decode cX5_hit 38 = .ok (.idiv, 1) := by decide +kernel
theorem dX5_hit_39 : decode cX5_hit 39 = .ok (.istore 6, 2) := by decide +kernel
theorem dX5_hit_41 : decode cX5_hit 41 = .ok (.iload 5, 2) := by decide +kernel
theorem dX5_hit_43 : decode cX5_hit 43 = .ok (.iconst 5, 1) := by decide +kernel
theorem dX5_hit_44 : decode cX5_hit 44 = .ok (.idiv, 1) := by decide +kernel
theorem dX5_hit_45 : decode cX5_hit 45 = .ok (.iconst 5, 1) := by decide +kernel
theorem dX5_hit_46 : decode cX5_hit 46 = .ok (.irem, 1) := by decide +kernel
theorem dX5_hit_47 : decode cX5_hit 47 = .ok (.istore 7, 2) := by decide +kernel
theorem dX5_hit_49 : decode cX5_hit 49 = .ok (.iload 5, 2) := by decide +kernel
theorem dX5_hit_51 : decode cX5_hit 51 = .ok (.iconst 5, 1) := by decide +kernel
theorem dX5_hit_52 : decode cX5_hit 52 = .ok (.irem, 1) := by decide +kernel
theorem dX5_hit_53 : decode cX5_hit 53 = .ok (.istore 8, 2) := by decide +kernel
theorem dX5_hit_55 : decode cX5_hit 55 = .ok (.aload_n 0, 1) := by decide +kernel
theorem dX5_hit_56 : decode cX5_hit 56 = .ok (.iload_n 1, 1) := by decide +kernel
theorem dX5_hit_57 : decode cX5_hit 57 = .ok (.iload 6, 2) := by decide +kernel
theorem dX5_hit_59 : decode cX5_hit 59 = .ok (.invokevirtual 90, 3) := by decide +kernel
theorem dX5_hit_62 : decode cX5_hit 62 = .ok (.istore 9, 2) := by decide +kernel
theorem dX5_hit_64 : decode cX5_hit 64 = .ok (.iconst 0, 1) := by decide +kernel
theorem dX5_hit_65 : decode cX5_hit 65 = .ok (.istore 10, 2) := by decide +kernel
theorem dX5_hit_67 : decode cX5_hit 67 = .ok (.iconst 0, 1) := by decide +kernel
theorem dX5_hit_68 : decode cX5_hit 68 = .ok (.istore 11, 2) := by decide +kernel
theorem dX5_hit_70 : decode cX5_hit 70 = .ok (.iload 11, 2) := by decide +kernel
theorem dX5_hit_72 : decode cX5_hit 72 = .ok (.bipush 64, 2) := by decide +kernel
theorem dX5_hit_74 : decode cX5_hit 74 = .ok (.if_icmp .ge 45, 3) := by decide +kernel
theorem dX5_hit_77 : decode cX5_hit 77 = .ok (.iload 10, 2) := by decide +kernel
theorem dX5_hit_79 : decode cX5_hit 79 = .ok (.aload_n 0, 1) := by decide +kernel
theorem dX5_hit_80 : decode cX5_hit 80 = .ok (.getfield 7, 3) := by decide +kernel
theorem dX5_hit_83 : decode cX5_hit 83 = .ok (.iconst 0, 1) := by decide +kernel
theorem dX5_hit_84 : decode cX5_hit 84 = .ok (.iload 11, 2) := by decide +kernel
theorem dX5_hit_86 : decode cX5_hit 86 = .ok (.iadd, 1) := by decide +kernel
theorem dX5_hit_87 : decode cX5_hit 87 = .ok (.iaload, 1) := by decide +kernel
theorem dX5_hit_88 : decode cX5_hit 88 = .ok (.ifCond .le 21, 3) := by decide +kernel
theorem dX5_hit_91 : decode cX5_hit 91 = .ok (.iload 9, 2) := by decide +kernel
theorem dX5_hit_93 : decode cX5_hit 93 = .ok (.iload 8, 2) := by decide +kernel
theorem dX5_hit_95 : decode cX5_hit 95 = .ok (.iload 7, 2) := by decide +kernel
theorem dX5_hit_97 : decode cX5_hit 97 = .ok (.iload 11, 2) := by decide +kernel
theorem dX5_hit_99 : decode cX5_hit 99 = .ok (.invokestatic 200, 3) := by decide +kernel
theorem dX5_hit_102 : decode cX5_hit 102 = .ok (.ifCond .eq 7, 3) := by decide +kernel
theorem dX5_hit_105 : decode cX5_hit 105 = .ok (.iconst 1, 1) := by decide +kernel
theorem dX5_hit_106 : decode cX5_hit 106 = .ok (.goto 4, 3) := by decide +kernel
theorem dX5_hit_109 : decode cX5_hit 109 = .ok (.iconst 0, 1) := by decide +kernel
theorem dX5_hit_110 : decode cX5_hit 110 = .ok (.iadd, 1) := by decide +kernel
theorem dX5_hit_111 : decode cX5_hit 111 = .ok (.istore 10, 2) := by decide +kernel
theorem dX5_hit_113 : decode cX5_hit 113 = .ok (.iinc 11 1, 3) := by decide +kernel
theorem dX5_hit_116 : decode cX5_hit 116 = .ok (.goto (-46), 3) := by decide +kernel
theorem dX5_hit_119 : decode cX5_hit 119 = .ok (.iload 10, 2) := by decide +kernel
theorem dX5_hit_121 : decode cX5_hit 121 = .ok (.iload_n 3, 1) := by decide +kernel
theorem dX5_hit_122 : decode cX5_hit 122 = .ok (.if_icmp .le 17, 3) := by decide +kernel
theorem dX5_hit_125 : decode cX5_hit 125 = .ok (.iload 10, 2) := by decide +kernel
theorem dX5_hit_127 : decode cX5_hit 127 = .ok (.istore_n 3, 1) := by decide +kernel
theorem dX5_hit_128 : decode cX5_hit 128 = .ok (.iload 6, 2) := by decide +kernel
theorem dX5_hit_130 : decode cX5_hit 130 = .ok (.iload 7, 2) := by decide +kernel
theorem dX5_hit_132 : decode cX5_hit 132 = .ok (.iload 8, 2) := by decide +kernel
theorem dX5_hit_134 : decode cX5_hit 134 = .ok (.invokestatic 204, 3) := by decide +kernel
theorem dX5_hit_137 : decode cX5_hit 137 = .ok (.istore 4, 2) := by decide +kernel
theorem dX5_hit_139 : decode cX5_hit 139 = .ok (.iinc 5 1, 3) := by decide +kernel
theorem dX5_hit_142 : decode cX5_hit 142 = .ok (.goto (-115), 3) := by decide +kernel
theorem dX5_hit_145 : decode cX5_hit 145 = .ok (.iload 4, 2) := by decide +kernel
theorem dX5_hit_147 : decode cX5_hit 147 = .ok (.ifCond .ge 7, 3) := by decide +kernel
theorem dX5_hit_150 : decode cX5_hit 150 = .ok (.iconst (-1), 1) := by decide +kernel
theorem dX5_hit_151 : decode cX5_hit 151 = .ok (.goto 13, 3) := by decide +kernel
theorem dX5_hit_154 : decode cX5_hit 154 = .ok (.iload_n 2, 1) := by decide +kernel
theorem dX5_hit_155 : decode cX5_hit 155 = .ok (.ifCond .ne 7, 3) := by decide +kernel
theorem dX5_hit_158 : decode cX5_hit 158 = .ok (.iload_n 3, 1) := by decide +kernel
theorem dX5_hit_159 : decode cX5_hit 159 = .ok (.goto 5, 3) := by decide +kernel
theorem dX5_hit_162 : decode cX5_hit 162 = .ok (.iload 4, 2) := by decide +kernel
theorem dX5_hit_164 : decode cX5_hit 164 = .ok (.ireturn, 1) := by decide +kernel
theorem dX5_want_0 : decode cX5_want 0 = .ok (.iload_n 1, 1) := by decide +kernel
theorem dX5_want_1 : decode cX5_want 1 = .ok (.iload_n 2, 1) := by decide +kernel
theorem dX5_want_2 : decode cX5_want 2 = .ok (.invokestatic 66, 3) := by decide +kernel
theorem dX5_want_5 : decode cX5_want 5 = .ok (.ifCond .ne 8, 3) := by decide +kernel
theorem dX5_want_8 : decode cX5_want 8 = .ok (.aload_n 0, 1) := by decide +kernel
theorem dX5_want_9 : decode cX5_want 9 = .ok (.invokevirtual 110, 3) := by decide +kernel
theorem dX5_want_12 : decode cX5_want 12 = .ok (.ireturn, 1) := by decide +kernel
theorem dX5_want_13 : decode cX5_want 13 = .ok (.aload_n 0, 1) := by decide +kernel
theorem dX5_want_14 : decode cX5_want 14 = .ok (.getfield 7, 3) := by decide +kernel
theorem dX5_want_17 : decode cX5_want 17 = .ok (.bipush 67, 2) := by decide +kernel
theorem dX5_want_19 : decode cX5_want 19 = .ok (.iaload, 1) := by decide +kernel
theorem dX5_want_20 : decode cX5_want 20 = .ok (.bipush 8, 2) := by decide +kernel
theorem dX5_want_22 : decode cX5_want 22 = .ok (.if_icmp .ne 8, 3) := by decide +kernel
theorem dX5_want_25 : decode cX5_want 25 = .ok (.aload_n 0, 1) := by decide +kernel
theorem dX5_want_26 : decode cX5_want 26 = .ok (.invokevirtual 141, 3) := by decide +kernel
theorem dX5_want_29 : decode cX5_want 29 = .ok (.ireturn, 1) := by decide +kernel
theorem dX5_want_30 : decode cX5_want 30 = .ok (.aload_n 0, 1) := by decide +kernel
theorem dX5_want_31 : decode cX5_want 31 = .ok (.getfield 7, 3) := by decide +kernel
theorem dX5_want_34 : decode cX5_want 34 = .ok (.bipush 68, 2) := by decide +kernel
theorem dX5_want_36 : decode cX5_want 36 = .ok (.aload_n 0, 1) := by decide +kernel
theorem dX5_want_37 : decode cX5_want 37 = .ok (.getfield 7, 3) := by decide +kernel
theorem dX5_want_40 : decode cX5_want 40 = .ok (.bipush 67, 2) := by decide +kernel
theorem dX5_want_42 : decode cX5_want 42 = .ok (.iaload, 1) := by decide +kernel
theorem dX5_want_43 : decode cX5_want 43 = .ok (.iadd, 1) := by decide +kernel
theorem dX5_want_44 : decode cX5_want 44 = .ok (.bipush 8, 2) := by decide +kernel
theorem dX5_want_46 : decode cX5_want 46 = .ok (.iload_n 2, 1) := by decide +kernel
theorem dX5_want_47 : decode cX5_want 47 = .ok (.imul, 1) := by decide +kernel
theorem dX5_want_48 : decode cX5_want 48 = .ok (.iload_n 1, 1) := by decide +kernel
theorem dX5_want_49 : decode cX5_want 49 = .ok (.iadd, 1) := by decide +kernel
theorem dX5_want_50 : decode cX5_want 50 = .ok (.iastore, 1) := by decide +kernel
theorem dX5_want_51 : decode cX5_want 51 = .ok (.aload_n 0, 1) := by decide +kernel
theorem dX5_want_52 : decode cX5_want 52 = .ok (.getfield 7, 3) := by decide +kernel
theorem dX5_want_55 : decode cX5_want 55 = .ok (.bipush 67, 2) := by decide +kernel
theorem dX5_want_57 : decode cX5_want 57 = .ok (.dup2, 1) := by decide +kernel
theorem dX5_want_58 : decode cX5_want 58 = .ok (.iaload, 1) := by decide +kernel
theorem dX5_want_59 : decode cX5_want 59 = .ok (.iconst 1, 1) := by decide +kernel
theorem dX5_want_60 : decode cX5_want 60 = .ok (.iadd, 1) := by decide +kernel
theorem dX5_want_61 : decode cX5_want 61 = .ok (.iastore, 1) := by decide +kernel
theorem dX5_want_62 : decode cX5_want 62 = .ok (.aload_n 0, 1) := by decide +kernel
theorem dX5_want_63 : decode cX5_want 63 = .ok (.getfield 7, 3) := by decide +kernel
theorem dX5_want_66 : decode cX5_want 66 = .ok (.bipush 67, 2) := by decide +kernel
theorem dX5_want_68 : decode cX5_want 68 = .ok (.iaload, 1) := by decide +kernel
theorem dX5_want_69 : decode cX5_want 69 = .ok (.ireturn, 1) := by decide +kernel
theorem dX5_findWanted_0 : decode cX5_findWanted 0 = .ok (.iconst 0, 1) := by decide +kernel
theorem dX5_findWanted_1 : decode cX5_findWanted 1 = .ok (.istore_n 2, 1) := by decide +kernel
theorem dX5_findWanted_2 : decode cX5_findWanted 2 = .ok (.iload_n 2, 1) := by decide +kernel
theorem dX5_findWanted_3 : decode cX5_findWanted 3 = .ok (.sipush 256, 3) := by decide +kernel
theorem dX5_findWanted_6 : decode cX5_findWanted 6 = .ok (.if_icmp .ge 92, 3) := by decide +kernel
theorem dX5_findWanted_9 : decode cX5_findWanted 9 = .ok (.aload_n 0, 1) := by decide +kernel
theorem dX5_findWanted_10 : decode cX5_findWanted 10 = .ok (.iload_n 1, 1) := by decide +kernel
theorem dX5_findWanted_11 : decode cX5_findWanted 11 = .ok (.iload_n 2, 1) := by decide +kernel
theorem dX5_findWanted_12 : decode cX5_findWanted 12 = .ok (.bipush 64, 2) := by decide +kernel
theorem dX5_findWanted_14 : decode cX5_findWanted 14 = .ok (.idiv, 1) := by decide +kernel
theorem dX5_findWanted_15 : decode cX5_findWanted 15 = .ok (.invokevirtual 90, 3) := by decide +kernel
theorem dX5_findWanted_18 : decode cX5_findWanted 18 = .ok (.istore_n 3, 1) := by decide +kernel
theorem dX5_findWanted_19 : decode cX5_findWanted 19 = .ok (.aload_n 0, 1) := by decide +kernel
theorem dX5_findWanted_20 : decode cX5_findWanted 20 = .ok (.getfield 32, 3) := by decide +kernel
theorem dX5_findWanted_23 : decode cX5_findWanted 23 = .ok (.iload_n 2, 1) := by decide +kernel
theorem dX5_findWanted_24 : decode cX5_findWanted 24 = .ok (.iconst 0, 1) := by decide +kernel
theorem dX5_findWanted_25 : decode cX5_findWanted 25 = .ok (.iastore, 1) := by decide +kernel
theorem dX5_findWanted_26 : decode cX5_findWanted 26 = .ok (.iconst 0, 1) := by decide +kernel
theorem dX5_findWanted_27 : decode cX5_findWanted 27 = .ok (.istore 4, 2) := by decide +kernel
theorem dX5_findWanted_29 : decode cX5_findWanted 29 = .ok (.iload 4, 2) := by decide +kernel
theorem dX5_findWanted_31 : decode cX5_findWanted 31 = .ok (.aload_n 0, 1) := by decide +kernel
theorem dX5_findWanted_32 : decode cX5_findWanted 32 = .ok (.getfield 7, 3) := by decide +kernel
theorem dX5_findWanted_35 : decode cX5_findWanted 35 = .ok (.bipush 67, 2) := by decide +kernel
theorem dX5_findWanted_37 : decode cX5_findWanted 37 = .ok (.iaload, 1) := by decide +kernel
theorem dX5_findWanted_38 : decode cX5_findWanted 38 = .ok (.if_icmp .ge 54, 3) := by decide +kernel
theorem dX5_findWanted_41 : decode cX5_findWanted 41 = .ok (.aload_n 0, 1) := by decide +kernel
theorem dX5_findWanted_42 : decode cX5_findWanted 42 = .ok (.getfield 32, 3) := by decide +kernel
