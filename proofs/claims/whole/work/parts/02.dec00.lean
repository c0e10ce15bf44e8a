theorem dX0_darkness_0 : decode cX0_darkness 0 = .ok (.iload_n 1, 1) := by decide +kernel
theorem dX0_darkness_1 : decode cX0_darkness 1 = .ok (.bipush 9, 2) := by decide +kernel
theorem dX0_darkness_3 : decode cX0_darkness 3 = .ok (.invokestatic 9, 3) := by decide +kernel
theorem dX0_darkness_6 : decode cX0_darkness 6 = .ok (.istore_n 2, 1) := by decide +kernel
theorem dX0_darkness_7 : decode cX0_darkness 7 = .ok (.iload_n 2, 1) := by decide +kernel
theorem dX0_darkness_8 : decode cX0_darkness 8 = .ok (.ifCond .gt 5, 3) := by decide +kernel
theorem dX0_darkness_11 : decode cX0_darkness 11 = .ok (.iconst 0, 1) := by decide +kernel
theorem dX0_darkness_12 : decode cX0_darkness 12 = .ok (.ireturn, 1) := by decide +kernel
theorem dX0_darkness_13 : decode cX0_darkness 13 = .ok (.iload_n 2, 1) := by decide +kernel
theorem dX0_darkness_14 : decode cX0_darkness 14 = .ok (.iconst 2, 1) := by decide +kernel
theorem dX0_darkness_15 : decode cX0_darkness 15 = .ok (.iadd, 1) := by decide +kernel
theorem dX0_darkness_16 : decode cX0_darkness 16 = .ok (.bipush 9, 2) := by decide +kernel
theorem dX0_darkness_18 : decode cX0_darkness 18 = .ok (.invokestatic 9, 3) := by decide +kernel
theorem dX0_darkness_21 : decode cX0_darkness 21 = .ok (.istore_n 3, 1) := by decide +kernel
theorem dX0_darkness_22 : decode cX0_darkness 22 = .ok (.iload_n 0, 1) := by decide +kernel
theorem dX0_darkness_23 : decode cX0_darkness 23 = .ok (.tableswitch 45 1 5 #[33, 35, 33, 35, 41], 33) := by decide +kernel
theorem dX0_darkness_56 : decode cX0_darkness 56 = .ok (.iload_n 3, 1) := by decide +kernel
theorem dX0_darkness_57 : decode cX0_darkness 57 = .ok (.ireturn, 1) := by decide +kernel
theorem dX0_darkness_58 : decode cX0_darkness 58 = .ok (.iload_n 2, 1) := by decide +kernel
theorem dX0_darkness_59 : decode cX0_darkness 59 = .ok (.iconst 1, 1) := by decide +kernel
theorem dX0_darkness_60 : decode cX0_darkness 60 = .ok (.iadd, 1) := by decide +kernel
theorem dX0_darkness_61 : decode cX0_darkness 61 = .ok (.iconst 2, 1) := by decide +kernel
theorem dX0_darkness_62 : decode cX0_darkness 62 = .ok (.idiv, 1) := by decide +kernel
theorem dX0_darkness_63 : decode cX0_darkness 63 = .ok (.ireturn, 1) := by decide +kernel
theorem dX0_darkness_64 : decode cX0_darkness 64 = .ok (.iload_n 3, 1) := by decide +kernel
theorem dX0_darkness_65 : decode cX0_darkness 65 = .ok (.iconst 1, 1) := by decide +kernel
theorem dX0_darkness_66 : decode cX0_darkness 66 = .ok (.isub, 1) := by decide +kernel
theorem dX0_darkness_67 : decode cX0_darkness 67 = .ok (.ireturn, 1) := by decide +kernel
theorem dX0_darkness_68 : decode cX0_darkness 68 = .ok (.iload_n 2, 1) := by decide +kernel
theorem dX0_darkness_69 : decode cX0_darkness 69 = .ok (.ireturn, 1) := by decide +kernel
theorem dX0_isHard_0 : decode cX0_isHard 0 = .ok (.iload_n 0, 1) := by decide +kernel
theorem dX0_isHard_1 : decode cX0_isHard 1 = .ok (.iconst 1, 1) := by decide +kernel
theorem dX0_isHard_2 : decode cX0_isHard 2 = .ok (.if_icmp .eq 13, 3) := by decide +kernel
theorem dX0_isHard_5 : decode cX0_isHard 5 = .ok (.iload_n 0, 1) := by decide +kernel
theorem dX0_isHard_6 : decode cX0_isHard 6 = .ok (.iconst 3, 1) := by decide +kernel
theorem dX0_isHard_7 : decode cX0_isHard 7 = .ok (.if_icmp .eq 8, 3) := by decide +kernel
theorem dX0_isHard_10 : decode cX0_isHard 10 = .ok (.iload_n 0, 1) := by decide +kernel
theorem dX0_isHard_11 : decode cX0_isHard 11 = .ok (.iconst 5, 1) := by decide +kernel
theorem dX0_isHard_12 : decode cX0_isHard 12 = .ok (.if_icmp .ne 7, 3) := by decide +kernel
theorem dX0_isHard_15 : decode cX0_isHard 15 = .ok (.iconst 1, 1) := by decide +kernel
theorem dX0_isHard_16 : decode cX0_isHard 16 = .ok (.goto 4, 3) := by decide +kernel
theorem dX0_isHard_19 : decode cX0_isHard 19 = .ok (.iconst 0, 1) := by decide +kernel
theorem dX0_isHard_20 : decode cX0_isHard 20 = .ok (.ireturn, 1) := by decide +kernel
theorem dX0_paintTaken_0 : decode cX0_paintTaken 0 = .ok (.iload_n 0, 1) := by decide +kernel
theorem dX0_paintTaken_1 : decode cX0_paintTaken 1 = .ok (.invokestatic 17, 3) := by decide +kernel
theorem dX0_paintTaken_4 : decode cX0_paintTaken 4 = .ok (.ifCond .eq 7, 3) := by decide +kernel
theorem dX0_paintTaken_7 : decode cX0_paintTaken 7 = .ok (.iconst 2, 1) := by decide +kernel
theorem dX0_paintTaken_8 : decode cX0_paintTaken 8 = .ok (.goto 4, 3) := by decide +kernel
theorem dX0_paintTaken_11 : decode cX0_paintTaken 11 = .ok (.iconst 1, 1) := by decide +kernel
theorem dX0_paintTaken_12 : decode cX0_paintTaken 12 = .ok (.iload_n 1, 1) := by decide +kernel
theorem dX0_paintTaken_13 : decode cX0_paintTaken 13 = .ok (.invokestatic 9, 3) := by decide +kernel
theorem dX0_paintTaken_16 : decode cX0_paintTaken 16 = .ok (.ireturn, 1) := by decide +kernel
theorem dX0_printsOfOneDip_0 : decode cX0_printsOfOneDip 0 = .ok (.iload_n 1, 1) := by decide +kernel
theorem dX0_printsOfOneDip_1 : decode cX0_printsOfOneDip 1 = .ok (.istore_n 3, 1) := by decide +kernel
theorem dX0_printsOfOneDip_2 : decode cX0_printsOfOneDip 2 = .ok (.iconst 0, 1) := by decide +kernel
theorem dX0_printsOfOneDip_3 : decode cX0_printsOfOneDip 3 = .ok (.istore 4, 2) := by decide +kernel
theorem dX0_printsOfOneDip_5 : decode cX0_printsOfOneDip 5 = .ok (.iload_n 3, 1) := by decide +kernel
theorem dX0_printsOfOneDip_6 : decode cX0_printsOfOneDip 6 = .ok (.ifCond .le 33, 3) := by decide +kernel
theorem dX0_printsOfOneDip_9 : decode cX0_printsOfOneDip 9 = .ok (.iload 4, 2) := by decide +kernel
theorem dX0_printsOfOneDip_11 : decode cX0_printsOfOneDip 11 = .ok (.bipush 12, 2) := by decide +kernel
theorem dX0_printsOfOneDip_13 : decode cX0_printsOfOneDip 13 = .ok (.if_icmp .ge 26, 3) := by decide +kernel
theorem dX0_printsOfOneDip_16 : decode cX0_printsOfOneDip 16 = .ok (.iload_n 0, 1) := by decide +kernel
theorem dX0_printsOfOneDip_17 : decode cX0_printsOfOneDip 17 = .ok (.iload_n 3, 1) := by decide +kernel
theorem dX0_printsOfOneDip_18 : decode cX0_printsOfOneDip 18 = .ok (.invokestatic 21, 3) := by decide +kernel
theorem dX0_printsOfOneDip_21 : decode cX0_printsOfOneDip 21 = .ok (.iload_n 2, 1) := by decide +kernel
theorem dX0_printsOfOneDip_22 : decode cX0_printsOfOneDip 22 = .ok (.if_icmp .lt 17, 3) := by decide +kernel
theorem dX0_printsOfOneDip_25 : decode cX0_printsOfOneDip 25 = .ok (.iload_n 3, 1) := by decide +kernel
theorem dX0_printsOfOneDip_26 : decode cX0_printsOfOneDip 26 = .ok (.iload_n 0, 1) := by decide +kernel
theorem dX0_printsOfOneDip_27 : decode cX0_printsOfOneDip 27 = .ok (.iload_n 3, 1) := by decide +kernel
theorem dX0_printsOfOneDip_28 : decode cX0_printsOfOneDip 28 = .ok (.invokestatic 24, 3) := by decide +kernel
theorem dX0_printsOfOneDip_31 : decode cX0_printsOfOneDip 31 = .ok (.isub, 1) := by decide +kernel
theorem dX0_printsOfOneDip_32 : decode cX0_printsOfOneDip 32 = .ok (.istore_n 3, 1) := by decide +kernel
theorem dX0_printsOfOneDip_33 : decode cX0_printsOfOneDip 33 = .ok (.iinc 4 1, 3) := by decide +kernel
theorem dX0_printsOfOneDip_36 : decode cX0_printsOfOneDip 36 = .ok (.goto (-31), 3) := by decide +kernel
theorem dX0_printsOfOneDip_39 : decode cX0_printsOfOneDip 39 = .ok (.iload 4, 2) := by decide +kernel
theorem dX0_printsOfOneDip_41 : decode cX0_printsOfOneDip 41 = .ok (.ireturn, 1) := by decide +kernel
theorem dX0_slidColumn_0 : decode cX0_slidColumn 0 = .ok (.iload_n 0, 1) := by decide +kernel
theorem dX0_slidColumn_1 : decode cX0_slidColumn 1 = .ok (.iconst 3, 1) := by decide +kernel
theorem dX0_slidColumn_2 : decode cX0_slidColumn 2 = .ok (.if_icmp .eq 8, 3) := by decide +kernel
theorem dX0_slidColumn_5 : decode cX0_slidColumn 5 = .ok (.iload_n 0, 1) := by decide +kernel
theorem dX0_slidColumn_6 : decode cX0_slidColumn 6 = .ok (.iconst 5, 1) := by decide +kernel
theorem dX0_slidColumn_7 : decode cX0_slidColumn 7 = .ok (.if_icmp .ne 7, 3) := by decide +kernel
theorem dX0_slidColumn_10 : decode cX0_slidColumn 10 = .ok (.iconst 1, 1) := by decide +kernel
theorem dX0_slidColumn_11 : decode cX0_slidColumn 11 = .ok (.goto 4, 3) := by decide +kernel
theorem dX0_slidColumn_14 : decode cX0_slidColumn 14 = .ok (.iconst 0, 1) := by decide +kernel
theorem dX0_slidColumn_15 : decode cX0_slidColumn 15 = .ok (.istore_n 3, 1) := by decide +kernel
theorem dX0_slidColumn_16 : decode cX0_slidColumn 16 = .ok (.iload_n 3, 1) := by decide +kernel
theorem dX0_slidColumn_17 : decode cX0_slidColumn 17 = .ok (.ifCond .eq 15, 3) := by decide +kernel
theorem dX0_slidColumn_20 : decode cX0_slidColumn 20 = .ok (.iload_n 1, 1) := by decide +kernel
theorem dX0_slidColumn_21 : decode cX0_slidColumn 21 = .ok (.bipush 8, 2) := by decide +kernel
theorem dX0_slidColumn_23 : decode cX0_slidColumn 23 = .ok (.if_icmp .le 9, 3) := by decide +kernel
theorem dX0_slidColumn_26 : decode cX0_slidColumn 26 = .ok (.iload_n 2, 1) := by decide +kernel
theorem dX0_slidColumn_27 : decode cX0_slidColumn 27 = .ok (.iconst 1, 1) := by decide +kernel
theorem dX0_slidColumn_28 : decode cX0_slidColumn 28 = .ok (.iadd, 1) := by decide +kernel
theorem dX0_slidColumn_29 : decode cX0_slidColumn 29 = .ok (.goto 4, 3) := by decide +kernel
theorem dX0_slidColumn_32 : decode cX0_slidColumn 32 = .ok (.iload_n 2, 1) := by decide +kernel
theorem dX0_slidColumn_33 : decode cX0_slidColumn 33 = .ok (.ireturn, 1) := by decide +kernel
theorem dX0_fullCells_0 : decode cX0_fullCells 0 = .ok (.iload_n 2, 1) := by decide +kernel
theorem dX0_fullCells_1 : decode cX0_fullCells 1 = .ok (.iload_n 0, 1) := by decide +kernel
theorem dX0_fullCells_2 : decode cX0_fullCells 2 = .ok (.iload_n 1, 1) := by decide +kernel
theorem dX0_fullCells_3 : decode cX0_fullCells 3 = .ok (.iload_n 3, 1) := by decide +kernel
theorem dX0_fullCells_4 : decode cX0_fullCells 4 = .ok (.invokestatic 27, 3) := by decide +kernel
theorem dX0_fullCells_7 : decode cX0_fullCells 7 = .ok (.iload 4, 2) := by decide +kernel
theorem dX0_fullCells_9 : decode cX0_fullCells 9 = .ok (.invokestatic 31, 3) := by decide +kernel
theorem dX0_fullCells_12 : decode cX0_fullCells 12 = .ok (.lstore 5, 2) := by decide +kernel
theorem dX0_fullCells_14 : decode cX0_fullCells 14 = .ok (.iload_n 0, 1) := by decide +kernel
theorem dX0_fullCells_15 : decode cX0_fullCells 15 = .ok (.iconst 4, 1) := by decide +kernel
theorem dX0_fullCells_16 : decode cX0_fullCells 16 = .ok (.if_icmp .ne 12, 3) := by decide +kernel
theorem dX0_fullCells_19 : decode cX0_fullCells 19 = .ok (.iload_n 1, 1) := by decide +kernel
theorem dX0_fullCells_20 : decode cX0_fullCells 20 = .ok (.iconst 4, 1) := by decide +kernel
theorem dX0_fullCells_21 : decode cX0_fullCells 21 = .ok (.if_icmp .ge 7, 3) := by decide +kernel
theorem dX0_fullCells_24 : decode cX0_fullCells 24 = .ok (.iconst 1, 1) := by decide +kernel
theorem dX0_fullCells_25 : decode cX0_fullCells 25 = .ok (.goto 4, 3) := by decide +kernel
theorem dX0_fullCells_28 : decode cX0_fullCells 28 = .ok (.iconst 0, 1) := by decide +kernel
theorem dX0_fullCells_29 : decode cX0_fullCells 29 = .ok (.istore 7, 2) := by decide +kernel
theorem dX0_fullCells_31 : decode cX0_fullCells 31 = .ok (.iload 7, 2) := by decide +kernel
theorem dX0_fullCells_33 : decode cX0_fullCells 33 = .ok (.ifCond .eq 12, 3) := by decide +kernel
theorem dX0_fullCells_36 : decode cX0_fullCells 36 = .ok (.lload 5, 2) := by decide +kernel
theorem dX0_fullCells_38 : decode cX0_fullCells 38 = .ok (.ldc2_w 37, 3) := by decide +kernel
theorem dX0_fullCells_41 : decode cX0_fullCells 41 = .ok (.land, 1) := by decide +kernel
theorem dX0_fullCells_42 : decode cX0_fullCells 42 = .ok (.goto 5, 3) := by decide +kernel
theorem dX0_fullCells_45 : decode cX0_fullCells 45 = .ok (.lload 5, 2) := by decide +kernel
theorem dX0_fullCells_47 : decode cX0_fullCells 47 = .ok (.lreturn, 1) := by decide +kernel
theorem dX0_halfCells_0 : decode cX0_halfCells 0 = .ok (.iload_n 0, 1) := by decide +kernel
theorem dX0_halfCells_1 : decode cX0_halfCells 1 = .ok (.iconst 5, 1) := by decide +kernel
theorem dX0_halfCells_2 : decode cX0_halfCells 2 = .ok (.if_icmp .ne 20, 3) := by decide +kernel
theorem dX0_halfCells_5 : decode cX0_halfCells 5 = .ok (.iload_n 2, 1) := by decide +kernel
theorem dX0_halfCells_6 : decode cX0_halfCells 6 = .ok (.iload_n 0, 1) := by decide +kernel
theorem dX0_halfCells_7 : decode cX0_halfCells 7 = .ok (.iload_n 1, 1) := by decide +kernel
theorem dX0_halfCells_8 : decode cX0_halfCells 8 = .ok (.iload_n 3, 1) := by decide +kernel
theorem dX0_halfCells_9 : decode cX0_halfCells 9 = .ok (.invokestatic 27, 3) := by decide +kernel
theorem dX0_halfCells_12 : decode cX0_halfCells 12 = .ok (.iconst 1, 1) := by decide +kernel
theorem dX0_halfCells_13 : decode cX0_halfCells 13 = .ok (.iadd, 1) := by decide +kernel
theorem dX0_halfCells_14 : decode cX0_halfCells 14 = .ok (.iload 4, 2) := by decide +kernel
theorem dX0_halfCells_16 : decode cX0_halfCells 16 = .ok (.invokestatic 31, 3) := by decide +kernel
theorem dX0_halfCells_19 : decode cX0_halfCells 19 = .ok (.goto 4, 3) := by decide +kernel
theorem dX0_halfCells_22 : decode cX0_halfCells 22 = .ok (.lconst 0, 1) := by decide +kernel
theorem dX0_halfCells_23 : decode cX0_halfCells 23 = .ok (.lreturn, 1) := by decide +kernel
theorem dX0_inks_0 : decode cX0_inks 0 = .ok (.iload_n 0, 1) := by decide +kernel
theorem dX0_inks_1 : decode cX0_inks 1 = .ok (.iload_n 1, 1) := by decide +kernel
theorem dX0_inks_2 : decode cX0_inks 2 = .ok (.invokestatic 21, 3) := by decide +kernel
theorem dX0_inks_5 : decode cX0_inks 5 = .ok (.istore 6, 2) := by decide +kernel
theorem dX0_inks_7 : decode cX0_inks 7 = .ok (.iload 6, 2) := by decide +kernel
theorem dX0_inks_9 : decode cX0_inks 9 = .ok (.ifCond .le 15, 3) := by decide +kernel
theorem dX0_inks_12 : decode cX0_inks 12 = .ok (.iload_n 0, 1) := by decide +kernel
theorem dX0_inks_13 : decode cX0_inks 13 = .ok (.iload_n 1, 1) := by decide +kernel
theorem dX0_inks_14 : decode cX0_inks 14 = .ok (.iload_n 2, 1) := by decide +kernel
theorem dX0_inks_15 : decode cX0_inks 15 = .ok (.iload_n 3, 1) := by decide +kernel
theorem dX0_inks_16 : decode cX0_inks 16 = .ok (.iload 4, 2) := by decide +kernel
theorem dX0_inks_18 : decode cX0_inks 18 = .ok (.invokestatic 39, 3) := by decide +kernel
theorem dX0_inks_21 : decode cX0_inks 21 = .ok (.goto 4, 3) := by decide +kernel
theorem dX0_inks_24 : decode cX0_inks 24 = .ok (.lconst 0, 1) := by decide +kernel
theorem dX0_inks_25 : decode cX0_inks 25 = .ok (.lstore 7, 2) := by decide +kernel
theorem dX0_inks_27 : decode cX0_inks 27 = .ok (.iload 6, 2) := by decide +kernel
theorem dX0_inks_29 : decode cX0_inks 29 = .ok (.iconst 2, 1) := by decide +kernel
theorem dX0_inks_30 : decode cX0_inks 30 = .ok (.idiv, 1) := by decide +kernel
theorem dX0_inks_31 : decode cX0_inks 31 = .ok (.ifCond .le 17, 3) := by decide +kernel
theorem dX0_inks_34 : decode cX0_inks 34 = .ok (.lload 7, 2) := by decide +kernel
theorem dX0_inks_36 : decode cX0_inks 36 = .ok (.iload_n 0, 1) := by decide +kernel
theorem dX0_inks_37 : decode cX0_inks 37 = .ok (.iload_n 1, 1) := by decide +kernel
theorem dX0_inks_38 : decode cX0_inks 38 = .ok (.iload_n 2, 1) := by decide +kernel
theorem dX0_inks_39 : decode cX0_inks 39 = .ok (.iload_n 3, 1) := by decide +kernel
theorem dX0_inks_40 : decode cX0_inks 40 = .ok (.iload 4, 2) := by decide +kernel
theorem dX0_inks_42 : decode cX0_inks 42 = .ok (.invokestatic 43, 3) := by decide +kernel
theorem dX0_inks_45 : decode cX0_inks 45 = .ok (.lor, 1) := by decide +kernel
theorem dX0_inks_46 : decode cX0_inks 46 = .ok (.lstore 7, 2) := by decide +kernel
theorem dX0_inks_48 : decode cX0_inks 48 = .ok (.lload 7, 2) := by decide +kernel
theorem dX0_inks_50 : decode cX0_inks 50 = .ok (.iload 5, 2) := by decide +kernel
theorem dX0_inks_52 : decode cX0_inks 52 = .ok (.lushr, 1) := by decide +kernel
theorem dX0_inks_53 : decode cX0_inks 53 = .ok (.lconst 1, 1) := by decide +kernel
theorem dX0_inks_54 : decode cX0_inks 54 = .ok (.land, 1) := by decide +kernel
theorem dX0_inks_55 : decode cX0_inks 55 = .ok (.lconst 1, 1) := by decide +kernel
theorem dX0_inks_56 : decode cX0_inks 56 = .ok (.lcmp, 1) := by decide +kernel
theorem dX0_inks_57 : decode cX0_inks 57 = .ok (.ifCond .ne 7, 3) := by decide +kernel
theorem dX0_inks_60 : decode cX0_inks 60 = .ok (.iconst 1, 1) := by decide +kernel
theorem dX0_inks_61 : decode cX0_inks 61 = .ok (.goto 4, 3) := by decide +kernel
theorem dX0_inks_64 : decode cX0_inks 64 = .ok (.iconst 0, 1) := by decide +kernel
theorem dX0_inks_65 : decode cX0_inks 65 = .ok (.ireturn, 1) := by decide +kernel
theorem dX1_printed_0 : decode cX1_printed 0 = .ok (.iload_n 0, 1) := by decide +kernel
theorem dX1_printed_1 : decode cX1_printed 1 = .ok (.invokestatic 9, 3) := by decide +kernel
theorem dX1_printed_4 : decode cX1_printed 4 = .ok (.istore_n 2, 1) := by decide +kernel
theorem dX1_printed_5 : decode cX1_printed 5 = .ok (.iconst 0, 1) := by decide +kernel
theorem dX1_printed_6 : decode cX1_printed 6 = .ok (.istore_n 3, 1) := by decide +kernel
theorem dX1_printed_7 : decode cX1_printed 7 = .ok (.iload_n 3, 1) := by decide +kernel
theorem dX1_printed_8 : decode cX1_printed 8 = .ok (.iload_n 1, 1) := by decide +kernel
theorem dX1_printed_9 : decode cX1_printed 9 = .ok (.if_icmp .ge 19, 3) := by decide +kernel
theorem dX1_printed_12 : decode cX1_printed 12 = .ok (.iload_n 3, 1) := by decide +kernel
theorem dX1_printed_13 : decode cX1_printed 13 = .ok (.iconst 3, 1) := by decide +kernel
theorem dX1_printed_14 : decode cX1_printed 14 = .ok (.if_icmp .gt 14, 3) := by decide +kernel
theorem dX1_printed_17 : decode cX1_printed 17 = .ok (.iload_n 2, 1) := by decide +kernel
theorem dX1_printed_18 : decode cX1_printed 18 = .ok (.invokestatic 15, 3) := by decide +kernel
theorem dX1_printed_21 : decode cX1_printed 21 = .ok (.istore_n 2, 1) := by decide +kernel
theorem dX1_printed_22 : decode cX1_printed 22 = .ok (.iinc 3 1, 3) := by decide +kernel
theorem dX1_printed_25 : decode cX1_printed 25 = .ok (.goto (-18), 3) := by decide +kernel
theorem dX1_printed_28 : decode cX1_printed 28 = .ok (.iload_n 2, 1) := by decide +kernel
theorem dX1_printed_29 : decode cX1_printed 29 = .ok (.ireturn, 1) := by decide +kernel
theorem dX1_mirrored_0 : decode cX1_mirrored 0 = .ok (.iconst 0, 1) := by decide +kernel
theorem dX1_mirrored_1 : decode cX1_mirrored 1 = .ok (.istore_n 1, 1) := by decide +kernel
theorem dX1_mirrored_2 : decode cX1_mirrored 2 = .ok (.iconst 0, 1) := by decide +kernel
theorem dX1_mirrored_3 : decode cX1_mirrored 3 = .ok (.istore_n 2, 1) := by decide +kernel
theorem dX1_mirrored_4 : decode cX1_mirrored 4 = .ok (.iload_n 2, 1) := by decide +kernel
theorem dX1_mirrored_5 : decode cX1_mirrored 5 = .ok (.bipush 16, 2) := by decide +kernel
theorem dX1_mirrored_7 : decode cX1_mirrored 7 = .ok (.if_icmp .ge 32, 3) := by decide +kernel
theorem dX1_mirrored_10 : decode cX1_mirrored 10 = .ok (.iload_n 0, 1) := by decide +kernel
theorem dX1_mirrored_11 : decode cX1_mirrored 11 = .ok (.iload_n 2, 1) := by decide +kernel
theorem dX1_mirrored_12 : decode cX1_mirrored 12 = .ok (.iushr, 1) := by decide +kernel
theorem dX1_mirrored_13 : decode cX1_mirrored 13 = .ok (.iconst 1, 1) := by decide +kernel
theorem dX1_mirrored_14 : decode cX1_mirrored 14 = .ok (.iand, 1) := by decide +kernel
theorem dX1_mirrored_15 : decode cX1_mirrored 15 = .ok (.iconst 1, 1) := by decide +kernel
theorem dX1_mirrored_16 : decode cX1_mirrored 16 = .ok (.if_icmp .ne 17, 3) := by decide +kernel
theorem dX1_mirrored_19 : decode cX1_mirrored 19 = .ok (.iload_n 1, 1) := by decide +kernel
theorem dX1_mirrored_20 : decode cX1_mirrored 20 = .ok (.iconst 3, 1) := by decide +kernel
theorem dX1_mirrored_21 : decode cX1_mirrored 21 = .ok (.iload_n 2, 1) := by decide +kernel
theorem dX1_mirrored_22 : decode cX1_mirrored 22 = .ok (.iconst 4, 1) := by decide +kernel
theorem dX1_mirrored_23 : decode cX1_mirrored 23 = .ok (.irem, 1) := by decide +kernel
theorem dX1_mirrored_24 : decode cX1_mirrored 24 = .ok (.isub, 1) := by decide +kernel
theorem dX1_mirrored_25 : decode cX1_mirrored 25 = .ok (.iload_n 2, 1) := by decide +kernel
theorem dX1_mirrored_26 : decode cX1_mirrored 26 = .ok (.iconst 4, 1) := by decide +kernel
theorem dX1_mirrored_27 : decode cX1_mirrored 27 = .ok (.idiv, 1) := by decide +kernel
theorem dX1_mirrored_28 : decode cX1_mirrored 28 = .ok (.invokestatic 18, 3) := by decide +kernel
theorem dX1_mirrored_31 : decode cX1_mirrored 31 = .ok (.ior, 1) := by decide +kernel
theorem dX1_mirrored_32 : decode cX1_mirrored 32 = .ok (.istore_n 1, 1) := by decide +kernel
theorem dX1_mirrored_33 : decode cX1_mirrored 33 = .ok (.iinc 2 1, 3) := by decide +kernel
theorem dX1_mirrored_36 : decode cX1_mirrored 36 = .ok (.goto (-32), 3) := by decide +kernel
theorem dX1_mirrored_39 : decode cX1_mirrored 39 = .ok (.iload_n 1, 1) := by decide +kernel
theorem dX1_mirrored_40 : decode cX1_mirrored 40 = .ok (.ireturn, 1) := by decide +kernel
theorem dX1_turnedOnce_0 : decode cX1_turnedOnce 0 = .ok (.iconst 0, 1) := by decide +kernel
theorem dX1_turnedOnce_1 : decode cX1_turnedOnce 1 = .ok (.istore_n 1, 1) := by decide +kernel
theorem dX1_turnedOnce_2 : decode cX1_turnedOnce 2 = .ok (.iconst 0, 1) := by decide +kernel
theorem dX1_turnedOnce_3 : decode cX1_turnedOnce 3 = .ok (.istore_n 2, 1) := by decide +kernel
theorem dX1_turnedOnce_4 : decode cX1_turnedOnce 4 = .ok (.iload_n 2, 1) := by decide +kernel
theorem dX1_turnedOnce_5 : decode cX1_turnedOnce 5 = .ok (.bipush 16, 2) := by decide +kernel
theorem dX1_turnedOnce_7 : decode cX1_turnedOnce 7 = .ok (.if_icmp .ge 32, 3) := by decide +kernel
theorem dX1_turnedOnce_10 : decode cX1_turnedOnce 10 = .ok (.iload_n 0, 1) := by decide +kernel
theorem dX1_turnedOnce_11 : decode cX1_turnedOnce 11 = .ok (.iload_n 2, 1) := by decide +kernel
theorem dX1_turnedOnce_12 : decode cX1_turnedOnce 12 = .ok (.iushr, 1) := by decide +kernel
theorem dX1_turnedOnce_13 : decode cX1_turnedOnce 13 = .ok (.iconst 1, 1) := by decide +kernel
theorem dX1_turnedOnce_14 : decode cX1_turnedOnce 14 = .ok (.iand, 1) := by decide +kernel
theorem dX1_turnedOnce_15 : decode cX1_turnedOnce 15 = .ok (.iconst 1, 1) := by decide +kernel
theorem dX1_turnedOnce_16 : decode cX1_turnedOnce 16 = .ok (.if_icmp .ne 17, 3) := by decide +kernel
theorem dX1_turnedOnce_19 : decode cX1_turnedOnce 19 = .ok (.iload_n 1, 1) := by decide +kernel
theorem dX1_turnedOnce_20 : decode cX1_turnedOnce 20 = .ok (.iconst 3, 1) := by decide +kernel
theorem dX1_turnedOnce_21 : decode cX1_turnedOnce 21 = .ok (.iload_n 2, 1) := by decide +kernel
theorem dX1_turnedOnce_22 : decode cX1_turnedOnce 22 = .ok (.iconst 4, 1) := by decide +kernel
theorem dX1_turnedOnce_23 : decode cX1_turnedOnce 23 = .ok (.idiv, 1) := by decide +kernel
theorem dX1_turnedOnce_24 : decode cX1_turnedOnce 24 = .ok (.isub, 1) := by decide +kernel
theorem dX1_turnedOnce_25 : decode cX1_turnedOnce 25 = .ok (.iload_n 2, 1) := by decide +kernel
theorem dX1_turnedOnce_26 : decode cX1_turnedOnce 26 = .ok (.iconst 4, 1) := by decide +kernel
theorem dX1_turnedOnce_27 : decode cX1_turnedOnce 27 = .ok (.irem, 1) := by decide +kernel
theorem dX1_turnedOnce_28 : decode cX1_turnedOnce 28 = .ok (.invokestatic 18, 3) := by decide +kernel
theorem dX1_turnedOnce_31 : decode cX1_turnedOnce 31 = .ok (.ior, 1) := by decide +kernel
theorem dX1_turnedOnce_32 : decode cX1_turnedOnce 32 = .ok (.istore_n 1, 1) := by decide +kernel
theorem dX1_turnedOnce_33 : decode cX1_turnedOnce 33 = .ok (.iinc 2 1, 3) := by decide +kernel
theorem dX1_turnedOnce_36 : decode cX1_turnedOnce 36 = .ok (.goto (-32), 3) := by decide +kernel
theorem dX1_turnedOnce_39 : decode cX1_turnedOnce 39 = .ok (.iload_n 1, 1) := by decide +kernel
theorem dX1_turnedOnce_40 : decode cX1_turnedOnce 40 = .ok (.ireturn, 1) := by decide +kernel
theorem dX1_shrunk_0 : decode cX1_shrunk 0 = .ok (.iconst 0, 1) := by decide +kernel
theorem dX1_shrunk_1 : decode cX1_shrunk 1 = .ok (.istore_n 1, 1) := by decide +kernel
theorem dX1_shrunk_2 : decode cX1_shrunk 2 = .ok (.iconst 0, 1) := by decide +kernel
theorem dX1_shrunk_3 : decode cX1_shrunk 3 = .ok (.istore_n 2, 1) := by decide +kernel
theorem dX1_shrunk_4 : decode cX1_shrunk 4 = .ok (.iload_n 2, 1) := by decide +kernel
theorem dX1_shrunk_5 : decode cX1_shrunk 5 = .ok (.iconst 4, 1) := by decide +kernel
theorem dX1_shrunk_6 : decode cX1_shrunk 6 = .ok (.if_icmp .ge 95, 3) := by decide +kernel
theorem dX1_shrunk_9 : decode cX1_shrunk 9 = .ok (.iconst 0, 1) := by decide +kernel
theorem dX1_shrunk_10 : decode cX1_shrunk 10 = .ok (.istore_n 3, 1) := by decide +kernel
theorem dX1_shrunk_11 : decode cX1_shrunk 11 = .ok (.iload_n 3, 1) := by decide +kernel
theorem dX1_shrunk_12 : decode cX1_shrunk 12 = .ok (.iconst 4, 1) := by decide +kernel
theorem dX1_shrunk_13 : decode cX1_shrunk 13 = .ok (.if_icmp .ge 82, 3) := by decide +kernel
theorem dX1_shrunk_16 : decode cX1_shrunk 16 = .ok (.iload_n 0, 1) := by decide +kernel
theorem dX1_shrunk_17 : decode cX1_shrunk 17 = .ok (.iload_n 3, 1) := by decide +kernel
theorem dX1_shrunk_18 : decode cX1_shrunk 18 = .ok (.iconst 1, 1) := by decide +kernel
theorem dX1_shrunk_19 : decode cX1_shrunk 19 = .ok (.isub, 1) := by decide +kernel
theorem dX1_shrunk_20 : decode cX1_shrunk 20 = .ok (.iload_n 2, 1) := by decide +kernel
theorem dX1_shrunk_21 : decode cX1_shrunk 21 = .ok (.invokestatic 22, 3) := by decide +kernel
theorem dX1_shrunk_24 : decode cX1_shrunk 24 = .ok (.ifCond .eq 40, 3) := by decide +kernel
theorem dX1_shrunk_27 : decode cX1_shrunk 27 = .ok (.iload_n 0, 1) := by decide +kernel
theorem dX1_shrunk_28 : decode cX1_shrunk 28 = .ok (.iload_n 3, 1) := by decide +kernel
theorem dX1_shrunk_29 : decode cX1_shrunk 29 = .ok (.iconst 1, 1) := by decide +kernel
theorem dX1_shrunk_30 : decode cX1_shrunk 30 = .ok (.iadd, 1) := by decide +kernel
theorem dX1_shrunk_31 : decode cX1_shrunk 31 = .ok (.iload_n 2, 1) := by decide +kernel
theorem dX1_shrunk_32 : decode cX1_shrunk 32 = .ok (.invokestatic 22, 3) := by decide +kernel
theorem dX1_shrunk_35 : decode cX1_shrunk 35 = .ok (.ifCond .eq 29, 3) := by decide +kernel
theorem dX1_shrunk_38 : decode cX1_shrunk 38 = .ok (.iload_n 0, 1) := by decide +kernel
theorem dX1_shrunk_39 : decode cX1_shrunk 39 = .ok (.iload_n 3, 1) := by decide +kernel
theorem dX1_shrunk_40 : decode cX1_shrunk 40 = .ok (.iload_n 2, 1) := by decide +kernel
theorem dX1_shrunk_41 : decode cX1_shrunk 41 = .ok (.iconst 1, 1) := by decide +kernel
theorem dX1_shrunk_42 : decode cX1_shrunk 42 = .ok (.isub, 1) := by decide +kernel
theorem dX1_shrunk_43 : decode cX1_shrunk 43 = .ok (.invokestatic 22, 3) := by decide +kernel
theorem dX1_shrunk_46 : decode cX1_shrunk 46 = .ok (.ifCond .eq 18, 3) := by decide +kernel
theorem dX1_shrunk_49 : decode cX1_shrunk 49 = .ok (.iload_n 0, 1) := by decide +kernel
theorem dX1_shrunk_50 : decode cX1_shrunk 50 = .ok (.iload_n 3, 1) := by decide +kernel
theorem dX1_shrunk_51 : decode cX1_shrunk 51 = .ok (.iload_n 2, 1) := by decide +kernel
theorem dX1_shrunk_52 : decode cX1_shrunk 52 = .ok (.iconst 1, 1) := by decide +kernel
theorem dX1_shrunk_53 : decode cX1_shrunk 53 = .ok (.iadd, 1) := by decide +kernel
theorem dX1_shrunk_54 : decode cX1_shrunk 54 = .ok (.invokestatic 22, 3) := by decide +kernel
theorem dX1_shrunk_57 : decode cX1_shrunk 57 = .ok (.ifCond .eq 7, 3) := by decide +kernel
theorem dX1_shrunk_60 : decode cX1_shrunk 60 = .ok (.iconst 1, 1) := by decide +kernel
theorem dX1_shrunk_61 : decode cX1_shrunk 61 = .ok (.goto 4, 3) := by decide +kernel
theorem dX1_shrunk_64 : decode cX1_shrunk 64 = .ok (.iconst 0, 1) := by decide +kernel
theorem dX1_shrunk_65 : decode cX1_shrunk 65 = .ok (.istore 4, 2) := by decide +kernel
theorem dX1_shrunk_67 : decode cX1_shrunk 67 = .ok (.iload_n 0, 1) := by decide +kernel
theorem dX1_shrunk_68 : decode cX1_shrunk 68 = .ok (.iload_n 3, 1) := by decide +kernel
theorem dX1_shrunk_69 : decode cX1_shrunk 69 = .ok (.iload_n 2, 1) := by decide +kernel
theorem dX1_shrunk_70 : decode cX1_shrunk 70 = .ok (.invokestatic 22, 3) := by decide +kernel
theorem dX1_shrunk_73 : decode cX1_shrunk 73 = .ok (.ifCond .eq 16, 3) := by decide +kernel
theorem dX1_shrunk_76 : decode cX1_shrunk 76 = .ok (.iload 4, 2) := by decide +kernel
theorem dX1_shrunk_78 : decode cX1_shrunk 78 = .ok (.ifCond .eq 11, 3) := by decide +kernel
theorem dX1_shrunk_81 : decode cX1_shrunk 81 = .ok (.iload_n 1, 1) := by decide +kernel
theorem dX1_shrunk_82 : decode cX1_shrunk 82 = .ok (.iload_n 3, 1) := by decide +kernel
theorem dX1_shrunk_83 : decode cX1_shrunk 83 = .ok (.iload_n 2, 1) := by decide +kernel
theorem dX1_shrunk_84 : decode cX1_shrunk 84 = .ok (.invokestatic 18, 3) := by decide +kernel
theorem dX1_shrunk_87 : decode cX1_shrunk 87 = .ok (.ior, 1) := by decide +kernel
theorem dX1_shrunk_88 : decode cX1_shrunk 88 = .ok (.istore_n 1, 1) := by decide +kernel
theorem dX1_shrunk_89 : decode cX1_shrunk 89 = .ok (.iinc 3 1, 3) := by decide +kernel
theorem dX1_shrunk_92 : decode cX1_shrunk 92 = .ok (.goto (-81), 3) := by decide +kernel
theorem dX1_shrunk_95 : decode cX1_shrunk 95 = .ok (.iinc 2 1, 3) := by decide +kernel
theorem dX1_shrunk_98 : decode cX1_shrunk 98 = .ok (.goto (-94), 3) := by decide +kernel
theorem dX1_shrunk_101 : decode cX1_shrunk 101 = .ok (.iload_n 1, 1) := by decide +kernel
theorem dX1_shrunk_102 : decode cX1_shrunk 102 = .ok (.ireturn, 1) := by decide +kernel
theorem dX1_placed_0 : decode cX1_placed 0 = .ok (.lconst 0, 1) := by decide +kernel
theorem dX1_placed_1 : decode cX1_placed 1 = .ok (.lstore_n 3, 1) := by decide +kernel
theorem dX1_placed_2 : decode cX1_placed 2 = .ok (.iconst 0, 1) := by decide +kernel
theorem dX1_placed_3 : decode cX1_placed 3 = .ok (.istore 5, 2) := by decide +kernel
theorem dX1_placed_5 : decode cX1_placed 5 = .ok (.iload 5, 2) := by decide +kernel
theorem dX1_placed_7 : decode cX1_placed 7 = .ok (.bipush 16, 2) := by decide +kernel
theorem dX1_placed_9 : decode cX1_placed 9 = .ok (.if_icmp .ge 62, 3) := by decide +kernel
theorem dX1_placed_12 : decode cX1_placed 12 = .ok (.iload_n 1, 1) := by decide +kernel
theorem dX1_placed_13 : decode cX1_placed 13 = .ok (.iload 5, 2) := by decide +kernel
theorem dX1_placed_15 : decode cX1_placed 15 = .ok (.iconst 4, 1) := by decide +kernel
theorem dX1_placed_16 : decode cX1_placed 16 = .ok (.irem, 1) := by decide +kernel
theorem dX1_placed_17 : decode cX1_placed 17 = .ok (.iadd, 1) := by decide +kernel
theorem dX1_placed_18 : decode cX1_placed 18 = .ok (.istore 6, 2) := by decide +kernel
theorem dX1_placed_20 : decode cX1_placed 20 = .ok (.iload_n 2, 1) := by decide +kernel
theorem dX1_placed_21 : decode cX1_placed 21 = .ok (.iload 5, 2) := by decide +kernel
theorem dX1_placed_23 : decode cX1_placed 23 = .ok (.iconst 4, 1) := by decide +kernel
theorem dX1_placed_24 : decode cX1_placed 24 = .ok (.idiv, 1) := by decide +kernel
theorem dX1_placed_25 : decode cX1_placed 25 = .ok (.iadd, 1) := by decide +kernel
theorem dX1_placed_26 : decode cX1_placed 26 = .ok (.istore 7, 2) := by decide +kernel
theorem dX1_placed_28 : decode cX1_placed 28 = .ok (.iload_n 0, 1) := by decide +kernel
theorem dX1_placed_29 : decode cX1_placed 29 = .ok (.iload 5, 2) := by decide +kernel
theorem dX1_placed_31 : decode cX1_placed 31 = .ok (.iushr, 1) := by decide +kernel
theorem dX1_placed_32 : decode cX1_placed 32 = .ok (.iconst 1, 1) := by decide +kernel
theorem dX1_placed_33 : decode cX1_placed 33 = .ok (.iand, 1) := by decide +kernel
theorem dX1_placed_34 : decode cX1_placed 34 = .ok (.iconst 1, 1) := by decide +kernel
theorem dX1_placed_35 : decode cX1_placed 35 = .ok (.if_icmp .ne 30, 3) := by decide +kernel
theorem dX1_placed_38 : decode cX1_placed 38 = .ok (.iload 6, 2) := by decide +kernel
theorem dX1_placed_40 : decode cX1_placed 40 = .ok (.bipush 8, 2) := by decide +kernel
theorem dX1_placed_42 : decode cX1_placed 42 = .ok (.if_icmp .ge 23, 3) := by decide +kernel
theorem dX1_placed_45 : decode cX1_placed 45 = .ok (.iload 7, 2) := by decide +kernel
theorem dX1_placed_47 : decode cX1_placed 47 = .ok (.bipush 8, 2) := by decide +kernel
theorem dX1_placed_49 : decode cX1_placed 49 = .ok (.if_icmp .ge 16, 3) := by decide +kernel
theorem dX1_placed_52 : decode cX1_placed 52 = .ok (.lload_n 3, 1) := by decide +kernel
theorem dX1_placed_53 : decode cX1_placed 53 = .ok (.lconst 1, 1) := by decide +kernel
theorem dX1_placed_54 : decode cX1_placed 54 = .ok (.bipush 8, 2) := by decide +kernel
theorem dX1_placed_56 : decode cX1_placed 56 = .ok (.iload 7, 2) := by decide +kernel
theorem dX1_placed_58 : decode cX1_placed 58 = .ok (.imul, 1) := by decide +kernel
theorem dX1_placed_59 : decode cX1_placed 59 = .ok (.iload 6, 2) := by decide +kernel
theorem dX1_placed_61 : decode cX1_placed 61 = .ok (.iadd, 1) := by decide +kernel
theorem dX1_placed_62 : decode cX1_placed 62 = .ok (.lshl, 1) := by decide +kernel
theorem dX1_placed_63 : decode cX1_placed 63 = .ok (.lor, 1) := by decide +kernel
theorem dX1_placed_64 : decode cX1_placed 64 = .ok (.lstore_n 3, 1) := by decide +kernel
theorem dX1_placed_65 : decode cX1_placed 65 = .ok (.iinc 5 1, 3) := by decide +kernel
theorem dX1_placed_68 : decode cX1_placed 68 = .ok (.goto (-63), 3) := by decide +kernel
theorem dX1_placed_71 : decode cX1_placed 71 = .ok (.lload_n 3, 1) := by decide +kernel
theorem dX1_placed_72 : decode cX1_placed 72 = .ok (.lreturn, 1) := by decide +kernel
theorem dX1_isUp_0 : decode cX1_isUp 0 = .ok (.iload_n 1, 1) := by decide +kernel
theorem dX1_isUp_1 : decode cX1_isUp 1 = .ok (.iconst 0, 1) := by decide +kernel
theorem dX1_isUp_2 : decode cX1_isUp 2 = .ok (.iconst 3, 1) := by decide +kernel
theorem dX1_isUp_3 : decode cX1_isUp 3 = .ok (.invokestatic 26, 3) := by decide +kernel
theorem dX1_isUp_6 : decode cX1_isUp 6 = .ok (.ifCond .eq 26, 3) := by decide +kernel
theorem dX1_isUp_9 : decode cX1_isUp 9 = .ok (.iload_n 2, 1) := by decide +kernel
theorem dX1_isUp_10 : decode cX1_isUp 10 = .ok (.iconst 0, 1) := by decide +kernel
theorem dX1_isUp_11 : decode cX1_isUp 11 = .ok (.iconst 3, 1) := by decide +kernel
theorem dX1_isUp_12 : decode cX1_isUp 12 = .ok (.invokestatic 26, 3) := by decide +kernel
theorem dX1_isUp_15 : decode cX1_isUp 15 = .ok (.ifCond .eq 17, 3) := by decide +kernel
theorem dX1_isUp_18 : decode cX1_isUp 18 = .ok (.iload_n 0, 1) := by decide +kernel
theorem dX1_isUp_19 : decode cX1_isUp 19 = .ok (.iload_n 1, 1) := by decide +kernel
theorem dX1_isUp_20 : decode cX1_isUp 20 = .ok (.iload_n 2, 1) := by decide +kernel
theorem dX1_isUp_21 : decode cX1_isUp 21 = .ok (.invokestatic 18, 3) := by decide +kernel
theorem dX1_isUp_24 : decode cX1_isUp 24 = .ok (.iand, 1) := by decide +kernel
theorem dX1_isUp_25 : decode cX1_isUp 25 = .ok (.ifCond .eq 7, 3) := by decide +kernel
theorem dX1_isUp_28 : decode cX1_isUp 28 = .ok (.iconst 1, 1) := by decide +kernel
theorem dX1_isUp_29 : decode cX1_isUp 29 = .ok (.goto 4, 3) := by decide +kernel
theorem dX1_isUp_32 : decode cX1_isUp 32 = .ok (.iconst 0, 1) := by decide +kernel
theorem dX1_isUp_33 : decode cX1_isUp 33 = .ok (.ireturn, 1) := by decide +kernel
theorem dX1_bitOf_0 : decode cX1_bitOf 0 = .ok (.iconst 1, 1) := by decide +kernel
theorem dX1_bitOf_1 : decode cX1_bitOf 1 = .ok (.iconst 4, 1) := by decide +kernel
theorem dX1_bitOf_2 : decode cX1_bitOf 2 = .ok (.iload_n 1, 1) := by decide +kernel
theorem dX1_bitOf_3 : decode cX1_bitOf 3 = .ok (.imul, 1) := by decide +kernel
theorem dX1_bitOf_4 : decode cX1_bitOf 4 = .ok (.iload_n 0, 1) := by decide +kernel
theorem dX1_bitOf_5 : decode cX1_bitOf 5 = .ok (.iadd, 1) := by decide +kernel
theorem dX1_bitOf_6 : decode cX1_bitOf 6 = .ok (.ishl, 1) := by decide +kernel
theorem dX1_bitOf_7 : decode cX1_bitOf 7 = .ok (.ireturn, 1) := by decide +kernel
theorem dX2_init_0 : decode cX2_init 0 = .ok (.aload_n 0, 1) := by decide +kernel
theorem dX2_init_1 : decode cX2_init 1 = .ok (.invokespecial 3, 3) := by decide +kernel
theorem dX2_init_4 : decode cX2_init 4 = .ok (.aload_n 0, 1) := by decide +kernel
theorem dX2_init_5 : decode cX2_init 5 = .ok (.iconst 2, 1) := by decide +kernel
theorem dX2_init_6 : decode cX2_init 6 = .ok (.newarray .int, 2) := by decide +kernel
theorem dX2_init_8 : decode cX2_init 8 = .ok (.putfield 9, 3) := by decide +kernel
theorem dX2_init_11 : decode cX2_init 11 = .ok (.aload_n 0, 1) := by decide +kernel
theorem dX2_init_12 : decode cX2_init 12 = .ok (.bipush 64, 2) := by decide +kernel
theorem dX2_init_14 : decode cX2_init 14 = .ok (.newarray .int, 2) := by decide +kernel
theorem dX2_init_16 : decode cX2_init 16 = .ok (.putfield 15, 3) := by decide +kernel
theorem dX2_init_19 : decode cX2_init 19 = .ok (.aload_n 0, 1) := by decide +kernel
theorem dX2_init_20 : decode cX2_init 20 = .ok (.iconst 0, 1) := by decide +kernel
theorem dX2_init_21 : decode cX2_init 21 = .ok (.putfield 18, 3) := by decide +kernel
theorem dX2_init_24 : decode cX2_init 24 = .ok (.aload_n 0, 1) := by decide +kernel
theorem dX2_init_25 : decode cX2_init 25 = .ok (.bipush 8, 2) := by decide +kernel
theorem dX2_init_27 : decode cX2_init 27 = .ok (.newarray .int, 2) := by decide +kernel
theorem dX2_init_29 : decode cX2_init 29 = .ok (.putfield 22, 3) := by decide +kernel
theorem dX2_init_32 : decode cX2_init 32 = .ok (.aload_n 0, 1) := by decide +kernel
theorem dX2_init_33 : decode cX2_init 33 = .ok (.iconst 0, 1) := by decide +kernel
theorem dX2_init_34 : decode cX2_init 34 = .ok (.putfield 25, 3) := by decide +kernel
theorem dX2_init_37 : decode cX2_init 37 = .ok (.aload_n 0, 1) := by decide +kernel
theorem dX2_init_38 : decode cX2_init 38 = .ok (.bipush 8, 2) := by decide +kernel
theorem dX2_init_40 : decode cX2_init 40 = .ok (.newarray .int, 2) := by decide +kernel
theorem dX2_init_42 : decode cX2_init 42 = .ok (.putfield 28, 3) := by decide +kernel
theorem dX2_init_45 : decode cX2_init 45 = .ok (.aload_n 0, 1) := by decide +kernel
theorem dX2_init_46 : decode cX2_init 46 = .ok (.bipush 8, 2) := by decide +kernel
theorem dX2_init_48 : decode cX2_init 48 = .ok (.newarray .int, 2) := by decide +kernel
theorem dX2_init_50 : decode cX2_init 50 = .ok (.putfield 31, 3) := by decide +kernel
theorem dX2_init_53 : decode cX2_init 53 = .ok (.aload_n 0, 1) := by decide +kernel
theorem dX2_init_54 : decode cX2_init 54 = .ok (.iconst 0, 1) := by decide +kernel
theorem dX2_init_55 : decode cX2_init 55 = .ok (.putfield 34, 3) := by decide +kernel
theorem dX2_init_58 : decode cX2_init 58 = .ok (.aload_n 0, 1) := by decide +kernel
theorem dX2_init_59 : decode cX2_init 59 = .ok (.sipush 512, 3) := by decide +kernel
theorem dX2_init_62 : decode cX2_init 62 = .ok (.newarray .int, 2) := by decide +kernel
theorem dX2_init_64 : decode cX2_init 64 = .ok (.putfield 37, 3) := by decide +kernel
theorem dX2_init_67 : decode cX2_init 67 = .ok (.aload_n 0, 1) := by decide +kernel
theorem dX2_init_68 : decode cX2_init 68 = .ok (.bipush 8, 2) := by decide +kernel
theorem dX2_init_70 : decode cX2_init 70 = .ok (.newarray .int, 2) := by decide +kernel
theorem dX2_init_72 : decode cX2_init 72 = .ok (.putfield 40, 3) := by decide +kernel
theorem dX2_init_75 : decode cX2_init 75 = .ok (.aload_n 0, 1) := by decide +kernel
theorem dX2_init_76 : decode cX2_init 76 = .ok (.iconst 0, 1) := by decide +kernel
theorem dX2_init_77 : decode cX2_init 77 = .ok (.putfield 43, 3) := by decide +kernel
theorem dX2_init_80 : decode cX2_init 80 = .ok (.return_, 1) := by decide +kernel
theorem dX2_beginAnew_0 : decode cX2_beginAnew 0 = .ok (.aload_n 0, 1) := by decide +kernel
theorem dX2_beginAnew_1 : decode cX2_beginAnew 1 = .ok (.getfield 9, 3) := by decide +kernel
theorem dX2_beginAnew_4 : decode cX2_beginAnew 4 = .ok (.iconst 0, 1) := by decide +kernel
theorem dX2_beginAnew_5 : decode cX2_beginAnew 5 = .ok (.invokestatic 46, 3) := by decide +kernel
theorem dX2_beginAnew_8 : decode cX2_beginAnew 8 = .ok (.aload_n 0, 1) := by decide +kernel
theorem dX2_beginAnew_9 : decode cX2_beginAnew 9 = .ok (.getfield 15, 3) := by decide +kernel
theorem dX2_beginAnew_12 : decode cX2_beginAnew 12 = .ok (.iconst 0, 1) := by decide +kernel
theorem dX2_beginAnew_13 : decode cX2_beginAnew 13 = .ok (.invokestatic 46, 3) := by decide +kernel
theorem dX2_beginAnew_16 : decode cX2_beginAnew 16 = .ok (.aload_n 0, 1) := by decide +kernel
theorem dX2_beginAnew_17 : decode cX2_beginAnew 17 = .ok (.iload_n 1, 1) := by decide +kernel
theorem dX2_beginAnew_18 : decode cX2_beginAnew 18 = .ok (.putfield 18, 3) := by decide +kernel
theorem dX2_beginAnew_21 : decode cX2_beginAnew 21 = .ok (.aload_n 0, 1) := by decide +kernel
theorem dX2_beginAnew_22 : decode cX2_beginAnew 22 = .ok (.iconst 0, 1) := by decide +kernel
theorem dX2_beginAnew_23 : decode cX2_beginAnew 23 = .ok (.putfield 25, 3) := by decide +kernel
theorem dX2_beginAnew_26 : decode cX2_beginAnew 26 = .ok (.aload_n 0, 1) := by decide +kernel
theorem dX2_beginAnew_27 : decode cX2_beginAnew 27 = .ok (.iconst 0, 1) := by decide +kernel
theorem dX2_beginAnew_28 : decode cX2_beginAnew 28 = .ok (.putfield 34, 3) := by decide +kernel
theorem dX2_beginAnew_31 : decode cX2_beginAnew 31 = .ok (.aload_n 0, 1) := by decide +kernel
theorem dX2_beginAnew_32 : decode cX2_beginAnew 32 = .ok (.iconst 0, 1) := by decide +kernel
theorem dX2_beginAnew_33 : decode cX2_beginAnew 33 = .ok (.putfield 43, 3) := by decide +kernel
theorem dX2_beginAnew_36 : decode cX2_beginAnew 36 = .ok (.return_, 1) := by decide +kernel
theorem dX2_takeOver_0 : decode cX2_takeOver 0 = .ok (.aload_n 0, 1) := by decide +kernel
theorem dX2_takeOver_1 : decode cX2_takeOver 1 = .ok (.aload_n 1, 1) := by decide +kernel
theorem dX2_takeOver_2 : decode cX2_takeOver 2 = .ok (.invokevirtual 52, 3) := by decide +kernel
theorem dX2_takeOver_5 : decode cX2_takeOver 5 = .ok (.aload_n 1, 1) := by decide +kernel
theorem dX2_takeOver_6 : decode cX2_takeOver 6 = .ok (.getfield 22, 3) := by decide +kernel
theorem dX2_takeOver_9 : decode cX2_takeOver 9 = .ok (.iconst 0, 1) := by decide +kernel
theorem dX2_takeOver_10 : decode cX2_takeOver 10 = .ok (.aload_n 0, 1) := by decide +kernel
theorem dX2_takeOver_11 : decode cX2_takeOver 11 = .ok (.getfield 22, 3) := by decide +kernel
theorem dX2_takeOver_14 : decode cX2_takeOver 14 = .ok (.iconst 0, 1) := by decide +kernel
theorem dX2_takeOver_15 : decode cX2_takeOver 15 = .ok (.bipush 8, 2) := by decide +kernel
theorem dX2_takeOver_17 : decode cX2_takeOver 17 = .ok (.invokestatic 56, 3) := by decide +kernel
theorem dX2_takeOver_20 : decode cX2_takeOver 20 = .ok (.aload_n 0, 1) := by decide +kernel
theorem dX2_takeOver_21 : decode cX2_takeOver 21 = .ok (.aload_n 1, 1) := by decide +kernel
theorem dX2_takeOver_22 : decode cX2_takeOver 22 = .ok (.getfield 25, 3) := by decide +kernel
theorem dX2_takeOver_25 : decode cX2_takeOver 25 = .ok (.putfield 25, 3) := by decide +kernel
theorem dX2_takeOver_28 : decode cX2_takeOver 28 = .ok (.aload_n 1, 1) := by decide +kernel
theorem dX2_takeOver_29 : decode cX2_takeOver 29 = .ok (.getfield 28, 3) := by decide +kernel
theorem dX2_takeOver_32 : decode cX2_takeOver 32 = .ok (.iconst 0, 1) := by decide +kernel
theorem dX2_takeOver_33 : decode cX2_takeOver 33 = .ok (.aload_n 0, 1) := by decide +kernel
theorem dX2_takeOver_34 : decode cX2_takeOver 34 = .ok (.getfield 28, 3) := by decide +kernel
theorem dX2_takeOver_37 : decode cX2_takeOver 37 = .ok (.iconst 0, 1) := by decide +kernel
theorem dX2_takeOver_38 : decode cX2_takeOver 38 = .ok (.bipush 8, 2) := by decide +kernel
theorem dX2_takeOver_40 : decode cX2_takeOver 40 = .ok (.invokestatic 56, 3) := by decide +kernel
theorem dX2_takeOver_43 : decode cX2_takeOver 43 = .ok (.aload_n 1, 1) := by decide +kernel
theorem dX2_takeOver_44 : decode cX2_takeOver 44 = .ok (.getfield 31, 3) := by decide +kernel
theorem dX2_takeOver_47 : decode cX2_takeOver 47 = .ok (.iconst 0, 1) := by decide +kernel
theorem dX2_takeOver_48 : decode cX2_takeOver 48 = .ok (.aload_n 0, 1) := by decide +kernel
theorem dX2_takeOver_49 : decode cX2_takeOver 49 = .ok (.getfield 31, 3) := by decide +kernel
theorem dX2_takeOver_52 : decode cX2_takeOver 52 = .ok (.iconst 0, 1) := by decide +kernel
theorem dX2_takeOver_53 : decode cX2_takeOver 53 = .ok (.bipush 8, 2) := by decide +kernel
theorem dX2_takeOver_55 : decode cX2_takeOver 55 = .ok (.invokestatic 56, 3) := by decide +kernel
theorem dX2_takeOver_58 : decode cX2_takeOver 58 = .ok (.aload_n 0, 1) := by decide +kernel
theorem dX2_takeOver_59 : decode cX2_takeOver 59 = .ok (.aload_n 1, 1) := by decide +kernel
theorem dX2_takeOver_60 : decode cX2_takeOver 60 = .ok (.getfield 34, 3) := by decide +kernel
theorem dX2_takeOver_63 : decode cX2_takeOver 63 = .ok (.putfield 34, 3) := by decide +kernel
theorem dX2_takeOver_66 : decode cX2_takeOver 66 = .ok (.aload_n 1, 1) := by decide +kernel
theorem dX2_takeOver_67 : decode cX2_takeOver 67 = .ok (.getfield 37, 3) := by decide +kernel
theorem dX2_takeOver_70 : decode cX2_takeOver 70 = .ok (.iconst 0, 1) := by decide +kernel
theorem dX2_takeOver_71 : decode cX2_takeOver 71 = .ok (.aload_n 0, 1) := by decide +kernel
theorem dX2_takeOver_72 : decode cX2_takeOver 72 = .ok (.getfield 37, 3) := by decide +kernel
theorem dX2_takeOver_75 : decode cX2_takeOver 75 = .ok (.iconst 0, 1) := by decide +kernel
theorem dX2_takeOver_76 : decode cX2_takeOver 76 = .ok (.sipush 512, 3) := by decide +kernel
theorem dX2_takeOver_79 : decode cX2_takeOver 79 = .ok (.invokestatic 56, 3) := by decide +kernel
theorem dX2_takeOver_82 : decode cX2_takeOver 82 = .ok (.aload_n 1, 1) := by decide +kernel
theorem dX2_takeOver_83 : decode cX2_takeOver 83 = .ok (.getfield 40, 3) := by decide +kernel
theorem dX2_takeOver_86 : decode cX2_takeOver 86 = .ok (.iconst 0, 1) := by decide +kernel
theorem dX2_takeOver_87 : decode cX2_takeOver 87 = .ok (.aload_n 0, 1) := by decide +kernel
theorem dX2_takeOver_88 : decode cX2_takeOver 88 = .ok (.getfield 40, 3) := by decide +kernel
theorem dX2_takeOver_91 : decode cX2_takeOver 91 = .ok (.iconst 0, 1) := by decide +kernel
theorem dX2_takeOver_92 : decode cX2_takeOver 92 = .ok (.bipush 8, 2) := by decide +kernel
theorem dX2_takeOver_94 : decode cX2_takeOver 94 = .ok (.invokestatic 56, 3) := by decide +kernel
theorem dX2_takeOver_97 : decode cX2_takeOver 97 = .ok (.aload_n 0, 1) := by decide +kernel
theorem dX2_takeOver_98 : decode cX2_takeOver 98 = .ok (.aload_n 1, 1) := by decide +kernel
theorem dX2_takeOver_99 : decode cX2_takeOver 99 = .ok (.getfield 43, 3) := by decide +kernel
theorem dX2_takeOver_102 : decode cX2_takeOver 102 = .ok (.putfield 43, 3) := by decide +kernel
theorem dX2_takeOver_105 : decode cX2_takeOver 105 = .ok (.return_, 1) := by decide +kernel
theorem dX2_takeOverPrints_0 : decode cX2_takeOverPrints 0 = .ok (.aload_n 1, 1) := by decide +kernel
theorem dX2_takeOverPrints_1 : decode cX2_takeOverPrints 1 = .ok (.getfield 9, 3) := by decide +kernel
theorem dX2_takeOverPrints_4 : decode cX2_takeOverPrints 4 = .ok (.iconst 0, 1) := by decide +kernel
theorem dX2_takeOverPrints_5 : decode cX2_takeOverPrints 5 = .ok (.aload_n 0, 1) := by decide +kernel
theorem dX2_takeOverPrints_6 : decode cX2_takeOverPrints 6 = .ok (.getfield 9, 3) := by decide +kernel
theorem dX2_takeOverPrints_9 : decode cX2_takeOverPrints 9 = .ok (.iconst 0, 1) := by decide +kernel
theorem dX2_takeOverPrints_10 : decode cX2_takeOverPrints 10 = .ok (.iconst 2, 1) := by decide +kernel
theorem dX2_takeOverPrints_11 : decode cX2_takeOverPrints 11 = .ok (.invokestatic 56, 3) := by decide +kernel
theorem dX2_takeOverPrints_14 : decode cX2_takeOverPrints 14 = .ok (.aload_n 1, 1) := by decide +kernel
theorem dX2_takeOverPrints_15 : decode cX2_takeOverPrints 15 = .ok (.getfield 15, 3) := by decide +kernel
theorem dX2_takeOverPrints_18 : decode cX2_takeOverPrints 18 = .ok (.iconst 0, 1) := by decide +kernel
theorem dX2_takeOverPrints_19 : decode cX2_takeOverPrints 19 = .ok (.aload_n 0, 1) := by decide +kernel
theorem dX2_takeOverPrints_20 : decode cX2_takeOverPrints 20 = .ok (.getfield 15, 3) := by decide +kernel
theorem dX2_takeOverPrints_23 : decode cX2_takeOverPrints 23 = .ok (.iconst 0, 1) := by decide +kernel
theorem dX2_takeOverPrints_24 : decode cX2_takeOverPrints 24 = .ok (.bipush 64, 2) := by decide +kernel
theorem dX2_takeOverPrints_26 : decode cX2_takeOverPrints 26 = .ok (.invokestatic 56, 3) := by decide +kernel
theorem dX2_takeOverPrints_29 : decode cX2_takeOverPrints 29 = .ok (.aload_n 0, 1) := by decide +kernel
theorem dX2_takeOverPrints_30 : decode cX2_takeOverPrints 30 = .ok (.aload_n 1, 1) := by decide +kernel
theorem dX2_takeOverPrints_31 : decode cX2_takeOverPrints 31 = .ok (.getfield 18, 3) := by decide +kernel
theorem dX2_takeOverPrints_34 : decode cX2_takeOverPrints 34 = .ok (.putfield 18, 3) := by decide +kernel
theorem dX2_takeOverPrints_37 : decode cX2_takeOverPrints 37 = .ok (.return_, 1) := by decide +kernel
theorem dX2_remember_0 : decode cX2_remember 0 = .ok (.aload_n 0, 1) := by decide +kernel
theorem dX2_remember_1 : decode cX2_remember 1 = .ok (.getfield 43, 3) := by decide +kernel
theorem dX2_remember_4 : decode cX2_remember 4 = .ok (.bipush 8, 2) := by decide +kernel
theorem dX2_remember_6 : decode cX2_remember 6 = .ok (.if_icmp .lt 41, 3) := by decide +kernel
theorem dX2_remember_9 : decode cX2_remember 9 = .ok (.aload_n 0, 1) := by decide +kernel
theorem dX2_remember_10 : decode cX2_remember 10 = .ok (.getfield 37, 3) := by decide +kernel
theorem dX2_remember_13 : decode cX2_remember 13 = .ok (.bipush 64, 2) := by decide +kernel
theorem dX2_remember_15 : decode cX2_remember 15 = .ok (.aload_n 0, 1) := by decide +kernel
theorem dX2_remember_16 : decode cX2_remember 16 = .ok (.getfield 37, 3) := by decide +kernel
theorem dX2_remember_19 : decode cX2_remember 19 = .ok (.iconst 0, 1) := by decide +kernel
theorem dX2_remember_20 : decode cX2_remember 20 = .ok (.sipush 448, 3) := by decide +kernel
theorem dX2_remember_23 : decode cX2_remember 23 = .ok (.invokestatic 56, 3) := by decide +kernel
theorem dX2_remember_26 : decode cX2_remember 26 = .ok (.aload_n 0, 1) := by decide +kernel
theorem dX2_remember_27 : decode cX2_remember 27 = .ok (.getfield 40, 3) := by decide +kernel
theorem dX2_remember_30 : decode cX2_remember 30 = .ok (.iconst 1, 1) := by decide +kernel
theorem dX2_remember_31 : decode cX2_remember 31 = .ok (.aload_n 0, 1) := by decide +kernel
theorem dX2_remember_32 : decode cX2_remember 32 = .ok (.getfield 40, 3) := by decide +kernel
theorem dX2_remember_35 : decode cX2_remember 35 = .ok (.iconst 0, 1) := by decide +kernel
theorem dX2_remember_36 : decode cX2_remember 36 = .ok (.bipush 7, 2) := by decide +kernel
theorem dX2_remember_38 : decode cX2_remember 38 = .ok (.invokestatic 56, 3) := by decide +kernel
theorem dX2_remember_41 : decode cX2_remember 41 = .ok (.aload_n 0, 1) := by decide +kernel
theorem dX2_remember_42 : decode cX2_remember 42 = .ok (.bipush 7, 2) := by decide +kernel
theorem dX2_remember_44 : decode cX2_remember 44 = .ok (.putfield 43, 3) := by decide +kernel
theorem dX2_remember_47 : decode cX2_remember 47 = .ok (.aload_n 0, 1) := by decide +kernel
theorem dX2_remember_48 : decode cX2_remember 48 = .ok (.getfield 15, 3) := by decide +kernel
theorem dX2_remember_51 : decode cX2_remember 51 = .ok (.iconst 0, 1) := by decide +kernel
theorem dX2_remember_52 : decode cX2_remember 52 = .ok (.aload_n 0, 1) := by decide +kernel
theorem dX2_remember_53 : decode cX2_remember 53 = .ok (.getfield 37, 3) := by decide +kernel
theorem dX2_remember_56 : decode cX2_remember 56 = .ok (.aload_n 0, 1) := by decide +kernel
theorem dX2_remember_57 : decode cX2_remember 57 = .ok (.getfield 43, 3) := by decide +kernel
theorem dX2_remember_60 : decode cX2_remember 60 = .ok (.bipush 64, 2) := by decide +kernel
theorem dX2_remember_62 : decode cX2_remember 62 = .ok (.imul, 1) := by decide +kernel
theorem dX2_remember_63 : decode cX2_remember 63 = .ok (.bipush 64, 2) := by decide +kernel
theorem dX2_remember_65 : decode cX2_remember 65 = .ok (.invokestatic 56, 3) := by decide +kernel
theorem dX2_remember_68 : decode cX2_remember 68 = .ok (.aload_n 0, 1) := by decide +kernel
theorem dX2_remember_69 : decode cX2_remember 69 = .ok (.getfield 40, 3) := by decide +kernel
theorem dX2_remember_72 : decode cX2_remember 72 = .ok (.aload_n 0, 1) := by decide +kernel
theorem dX2_remember_73 : decode cX2_remember 73 = .ok (.getfield 43, 3) := by decide +kernel
theorem dX2_remember_76 : decode cX2_remember 76 = .ok (.aload_n 0, 1) := by decide +kernel
theorem dX2_remember_77 : decode cX2_remember 77 = .ok (.getfield 18, 3) := by decide +kernel
theorem dX2_remember_80 : decode cX2_remember 80 = .ok (.iastore, 1) := by decide +kernel
theorem dX2_remember_81 : decode cX2_remember 81 = .ok (.aload_n 0, 1) := by decide +kernel
theorem dX2_remember_82 : decode cX2_remember 82 = .ok (.dup, 1) := by decide +kernel
theorem dX2_remember_83 : decode cX2_remember 83 = .ok (.getfield 43, 3) := by decide +kernel
theorem dX2_remember_86 : decode cX2_remember 86 = .ok (.iconst 1, 1) := by decide +kernel
theorem dX2_remember_87 : decode cX2_remember 87 = .ok (.iadd, 1) := by decide +kernel
theorem dX2_remember_88 : decode cX2_remember 88 = .ok (.putfield 43, 3) := by decide +kernel
theorem dX2_remember_91 : decode cX2_remember 91 = .ok (.return_, 1) := by decide +kernel
theorem dX2_stepBack_0 : decode cX2_stepBack 0 = .ok (.aload_n 0, 1) := by decide +kernel
theorem dX2_stepBack_1 : decode cX2_stepBack 1 = .ok (.getfield 43, 3) := by decide +kernel
theorem dX2_stepBack_4 : decode cX2_stepBack 4 = .ok (.ifCond .le 47, 3) := by decide +kernel
theorem dX2_stepBack_7 : decode cX2_stepBack 7 = .ok (.aload_n 0, 1) := by decide +kernel
theorem dX2_stepBack_8 : decode cX2_stepBack 8 = .ok (.dup, 1) := by decide +kernel
theorem dX2_stepBack_9 : decode cX2_stepBack 9 = .ok (.getfield 43, 3) := by decide +kernel
theorem dX2_stepBack_12 : decode cX2_stepBack 12 = .ok (.iconst 1, 1) := by decide +kernel
theorem dX2_stepBack_13 : decode cX2_stepBack 13 = .ok (.isub, 1) := by decide +kernel
theorem dX2_stepBack_14 : decode cX2_stepBack 14 = .ok (.putfield 43, 3) := by decide +kernel
theorem dX2_stepBack_17 : decode cX2_stepBack 17 = .ok (.aload_n 0, 1) := by decide +kernel
theorem dX2_stepBack_18 : decode cX2_stepBack 18 = .ok (.getfield 37, 3) := by decide +kernel
theorem dX2_stepBack_21 : decode cX2_stepBack 21 = .ok (.aload_n 0, 1) := by decide +kernel
theorem dX2_stepBack_22 : decode cX2_stepBack 22 = .ok (.getfield 43, 3) := by decide +kernel
theorem dX2_stepBack_25 : decode cX2_stepBack 25 = .ok (.bipush 64, 2) := by decide +kernel
theorem dX2_stepBack_27 : decode cX2_stepBack 27 = .ok (.imul, 1) := by decide +kernel
theorem dX2_stepBack_28 : decode cX2_stepBack 28 = .ok (.aload_n 0, 1) := by decide +kernel
theorem dX2_stepBack_29 : decode cX2_stepBack 29 = .ok (.getfield 15, 3) := by decide +kernel
theorem dX2_stepBack_32 : decode cX2_stepBack 32 = .ok (.iconst 0, 1) := by decide +kernel
theorem dX2_stepBack_33 : decode cX2_stepBack 33 = .ok (.bipush 64, 2) := by decide +kernel
theorem dX2_stepBack_35 : decode cX2_stepBack 35 = .ok (.invokestatic 56, 3) := by decide +kernel
theorem dX2_stepBack_38 : decode cX2_stepBack 38 = .ok (.aload_n 0, 1) := by decide +kernel
theorem dX2_stepBack_39 : decode cX2_stepBack 39 = .ok (.aload_n 0, 1) := by decide +kernel
theorem dX2_stepBack_40 : decode cX2_stepBack 40 = .ok (.getfield 40, 3) := by decide +kernel
theorem dX2_stepBack_43 : decode cX2_stepBack 43 = .ok (.aload_n 0, 1) := by decide +kernel
theorem dX2_stepBack_44 : decode cX2_stepBack 44 = .ok (.getfield 43, 3) := by decide +kernel
theorem dX2_stepBack_47 : decode cX2_stepBack 47 = .ok (.iaload, 1) := by decide +kernel
theorem dX2_stepBack_48 : decode cX2_stepBack 48 = .ok (.putfield 18, 3) := by decide +kernel
theorem dX2_stepBack_51 : decode cX2_stepBack 51 = .ok (.return_, 1) := by decide +kernel
theorem dX2_putPrint_0 : decode cX2_putPrint 0 = .ok (.aload_n 0, 1) := by decide +kernel
theorem dX2_putPrint_1 : decode cX2_putPrint 1 = .ok (.getfield 9, 3) := by decide +kernel
theorem dX2_putPrint_4 : decode cX2_putPrint 4 = .ok (.iload_n 2, 1) := by decide +kernel
theorem dX2_putPrint_5 : decode cX2_putPrint 5 = .ok (.iaload, 1) := by decide +kernel
theorem dX2_putPrint_6 : decode cX2_putPrint 6 = .ok (.iload 5, 2) := by decide +kernel
theorem dX2_putPrint_8 : decode cX2_putPrint 8 = .ok (.invokestatic 62, 3) := by decide +kernel
theorem dX2_putPrint_11 : decode cX2_putPrint 11 = .ok (.istore 6, 2) := by decide +kernel
theorem dX2_putPrint_13 : decode cX2_putPrint 13 = .ok (.iload_n 1, 1) := by decide +kernel
theorem dX2_putPrint_14 : decode cX2_putPrint 14 = .ok (.aload_n 0, 1) := by decide +kernel
theorem dX2_putPrint_15 : decode cX2_putPrint 15 = .ok (.getfield 18, 3) := by decide +kernel
theorem dX2_putPrint_18 : decode cX2_putPrint 18 = .ok (.invokestatic 68, 3) := by decide +kernel
theorem dX2_putPrint_21 : decode cX2_putPrint 21 = .ok (.istore 7, 2) := by decide +kernel
theorem dX2_putPrint_23 : decode cX2_putPrint 23 = .ok (.iload_n 1, 1) := by decide +kernel
theorem dX2_putPrint_24 : decode cX2_putPrint 24 = .ok (.aload_n 0, 1) := by decide +kernel
theorem dX2_putPrint_25 : decode cX2_putPrint 25 = .ok (.getfield 18, 3) := by decide +kernel
theorem dX2_putPrint_28 : decode cX2_putPrint 28 = .ok (.iload 6, 2) := by decide +kernel
theorem dX2_putPrint_30 : decode cX2_putPrint 30 = .ok (.iload_n 3, 1) := by decide +kernel
theorem dX2_putPrint_31 : decode cX2_putPrint 31 = .ok (.iload 4, 2) := by decide +kernel
theorem dX2_putPrint_33 : decode cX2_putPrint 33 = .ok (.invokestatic 73, 3) := by decide +kernel
theorem dX2_putPrint_36 : decode cX2_putPrint 36 = .ok (.lstore 8, 2) := by decide +kernel
theorem dX2_putPrint_38 : decode cX2_putPrint 38 = .ok (.iload_n 1, 1) := by decide +kernel
theorem dX2_putPrint_39 : decode cX2_putPrint 39 = .ok (.aload_n 0, 1) := by decide +kernel
theorem dX2_putPrint_40 : decode cX2_putPrint 40 = .ok (.getfield 18, 3) := by decide +kernel
theorem dX2_putPrint_43 : decode cX2_putPrint 43 = .ok (.iload 6, 2) := by decide +kernel
theorem dX2_putPrint_45 : decode cX2_putPrint 45 = .ok (.iload_n 3, 1) := by decide +kernel
theorem dX2_putPrint_46 : decode cX2_putPrint 46 = .ok (.iload 4, 2) := by decide +kernel
theorem dX2_putPrint_48 : decode cX2_putPrint 48 = .ok (.invokestatic 77, 3) := by decide +kernel
theorem dX2_putPrint_51 : decode cX2_putPrint 51 = .ok (.lstore 10, 2) := by decide +kernel
theorem dX2_putPrint_53 : decode cX2_putPrint 53 = .ok (.aload_n 0, 1) := by decide +kernel
theorem dX2_putPrint_54 : decode cX2_putPrint 54 = .ok (.dup, 1) := by decide +kernel
theorem dX2_putPrint_55 : decode cX2_putPrint 55 = .ok (.getfield 18, 3) := by decide +kernel
theorem dX2_putPrint_58 : decode cX2_putPrint 58 = .ok (.iload_n 1, 1) := by decide +kernel
theorem dX2_putPrint_59 : decode cX2_putPrint 59 = .ok (.aload_n 0, 1) := by decide +kernel
theorem dX2_putPrint_60 : decode cX2_putPrint 60 = .ok (.getfield 18, 3) := by decide +kernel
theorem dX2_putPrint_63 : decode cX2_putPrint 63 = .ok (.invokestatic 80, 3) := by decide +kernel
theorem dX2_putPrint_66 : decode cX2_putPrint 66 = .ok (.isub, 1) := by decide +kernel
theorem dX2_putPrint_67 : decode cX2_putPrint 67 = .ok (.putfield 18, 3) := by decide +kernel
theorem dX2_putPrint_70 : decode cX2_putPrint 70 = .ok (.aload_n 0, 1) := by decide +kernel
theorem dX2_putPrint_71 : decode cX2_putPrint 71 = .ok (.lload 8, 2) := by decide +kernel
theorem dX2_putPrint_73 : decode cX2_putPrint 73 = .ok (.iload 7, 2) := by decide +kernel
theorem dX2_putPrint_75 : decode cX2_putPrint 75 = .ok (.invokevirtual 83, 3) := by decide +kernel
theorem dX2_putPrint_78 : decode cX2_putPrint 78 = .ok (.aload_n 0, 1) := by decide +kernel
theorem dX2_putPrint_79 : decode cX2_putPrint 79 = .ok (.lload 10, 2) := by decide +kernel
theorem dX2_putPrint_81 : decode cX2_putPrint 81 = .ok (.lload 8, 2) := by decide +kernel
theorem dX2_putPrint_83 : decode cX2_putPrint 83 = .ok (.ldc2_w 87, 3) := by decide +kernel
theorem dX2_putPrint_86 : decode cX2_putPrint 86 = .ok (.lxor, 1) := by decide +kernel
theorem dX2_putPrint_87 : decode cX2_putPrint 87 = .ok (.land, 1) := by decide +kernel
theorem dX2_putPrint_88 : decode cX2_putPrint 88 = .ok (.iload 7, 2) := by decide +kernel
theorem dX2_putPrint_90 : decode cX2_putPrint 90 = .ok (.iconst 2, 1) := by decide +kernel
theorem dX2_putPrint_91 : decode cX2_putPrint 91 = .ok (.idiv, 1) := by decide +kernel
theorem dX2_putPrint_92 : decode cX2_putPrint 92 = .ok (.invokevirtual 83, 3) := by decide +kernel
theorem dX2_putPrint_95 : decode cX2_putPrint 95 = .ok (.iadd, 1) := by decide +kernel
theorem dX2_putPrint_96 : decode cX2_putPrint 96 = .ok (.ireturn, 1) := by decide +kernel
theorem dX2_darken_0 : decode cX2_darken 0 = .ok (.iconst 0, 1) := by decide +kernel
theorem dX2_darken_1 : decode cX2_darken 1 = .ok (.istore 4, 2) := by decide +kernel
theorem dX2_darken_3 : decode cX2_darken 3 = .ok (.iconst 0, 1) := by decide +kernel
theorem dX2_darken_4 : decode cX2_darken 4 = .ok (.istore 5, 2) := by decide +kernel
theorem dX2_darken_6 : decode cX2_darken 6 = .ok (.iload 5, 2) := by decide +kernel
theorem dX2_darken_8 : decode cX2_darken 8 = .ok (.bipush 64, 2) := by decide +kernel
theorem dX2_darken_10 : decode cX2_darken 10 = .ok (.if_icmp .ge 42, 3) := by decide +kernel
theorem dX2_darken_13 : decode cX2_darken 13 = .ok (.lload_n 1, 1) := by decide +kernel
theorem dX2_darken_14 : decode cX2_darken 14 = .ok (.iload 5, 2) := by decide +kernel
theorem dX2_darken_16 : decode cX2_darken 16 = .ok (.lushr, 1) := by decide +kernel
theorem dX2_darken_17 : decode cX2_darken 17 = .ok (.lconst 1, 1) := by decide +kernel
theorem dX2_darken_18 : decode cX2_darken 18 = .ok (.land, 1) := by decide +kernel
theorem dX2_darken_19 : decode cX2_darken 19 = .ok (.lconst 1, 1) := by decide +kernel
theorem dX2_darken_20 : decode cX2_darken 20 = .ok (.lcmp, 1) := by decide +kernel
theorem dX2_darken_21 : decode cX2_darken 21 = .ok (.ifCond .ne 25, 3) := by decide +kernel
theorem dX2_darken_24 : decode cX2_darken 24 = .ok (.iload_n 3, 1) := by decide +kernel
theorem dX2_darken_25 : decode cX2_darken 25 = .ok (.aload_n 0, 1) := by decide +kernel
theorem dX2_darken_26 : decode cX2_darken 26 = .ok (.getfield 15, 3) := by decide +kernel
theorem dX2_darken_29 : decode cX2_darken 29 = .ok (.iload 5, 2) := by decide +kernel
theorem dX2_darken_31 : decode cX2_darken 31 = .ok (.iaload, 1) := by decide +kernel
theorem dX2_darken_32 : decode cX2_darken 32 = .ok (.if_icmp .le 14, 3) := by decide +kernel
theorem dX2_darken_35 : decode cX2_darken 35 = .ok (.aload_n 0, 1) := by decide +kernel
theorem dX2_darken_36 : decode cX2_darken 36 = .ok (.getfield 15, 3) := by decide +kernel
theorem dX2_darken_39 : decode cX2_darken 39 = .ok (.iload 5, 2) := by decide +kernel
theorem dX2_darken_41 : decode cX2_darken 41 = .ok (.iload_n 3, 1) := by decide +kernel
theorem dX2_darken_42 : decode cX2_darken 42 = .ok (.iastore, 1) := by decide +kernel
theorem dX2_darken_43 : decode cX2_darken 43 = .ok (.iinc 4 1, 3) := by decide +kernel
theorem dX2_darken_46 : decode cX2_darken 46 = .ok (.iinc 5 1, 3) := by decide +kernel
theorem dX2_darken_49 : decode cX2_darken 49 = .ok (.goto (-43), 3) := by decide +kernel
theorem dX2_darken_52 : decode cX2_darken 52 = .ok (.iload 4, 2) := by decide +kernel
theorem dX2_darken_54 : decode cX2_darken 54 = .ok (.ireturn, 1) := by decide +kernel
theorem dX2_darkCells_0 : decode cX2_darkCells 0 = .ok (.lconst 0, 1) := by decide +kernel
theorem dX2_darkCells_1 : decode cX2_darkCells 1 = .ok (.lstore_n 1, 1) := by decide +kernel
theorem dX2_darkCells_2 : decode cX2_darkCells 2 = .ok (.iconst 0, 1) := by decide +kernel
theorem dX2_darkCells_3 : decode cX2_darkCells 3 = .ok (.istore_n 3, 1) := by decide +kernel
theorem dX2_darkCells_4 : decode cX2_darkCells 4 = .ok (.iload_n 3, 1) := by decide +kernel
theorem dX2_darkCells_5 : decode cX2_darkCells 5 = .ok (.bipush 64, 2) := by decide +kernel
theorem dX2_darkCells_7 : decode cX2_darkCells 7 = .ok (.if_icmp .ge 24, 3) := by decide +kernel
theorem dX2_darkCells_10 : decode cX2_darkCells 10 = .ok (.aload_n 0, 1) := by decide +kernel
theorem dX2_darkCells_11 : decode cX2_darkCells 11 = .ok (.getfield 15, 3) := by decide +kernel
theorem dX2_darkCells_14 : decode cX2_darkCells 14 = .ok (.iload_n 3, 1) := by decide +kernel
theorem dX2_darkCells_15 : decode cX2_darkCells 15 = .ok (.iaload, 1) := by decide +kernel
theorem dX2_darkCells_16 : decode cX2_darkCells 16 = .ok (.ifCond .le 9, 3) := by decide +kernel
theorem dX2_darkCells_19 : decode cX2_darkCells 19 = .ok (.lload_n 1, 1) := by decide +kernel
theorem dX2_darkCells_20 : decode cX2_darkCells 20 = .ok (.lconst 1, 1) := by decide +kernel
theorem dX2_darkCells_21 : decode cX2_darkCells 21 = .ok (.iload_n 3, 1) := by decide +kernel
theorem dX2_darkCells_22 : decode cX2_darkCells 22 = .ok (.lshl, 1) := by decide +kernel
theorem dX2_darkCells_23 : decode cX2_darkCells 23 = .ok (.lor, 1) := by decide +kernel
theorem dX2_darkCells_24 : decode cX2_darkCells 24 = .ok (.lstore_n 1, 1) := by decide +kernel
theorem dX2_darkCells_25 : decode cX2_darkCells 25 = .ok (.iinc 3 1, 3) := by decide +kernel
theorem dX2_darkCells_28 : decode cX2_darkCells 28 = .ok (.goto (-24), 3) := by decide +kernel
theorem dX2_darkCells_31 : decode cX2_darkCells 31 = .ok (.lload_n 1, 1) := by decide +kernel
theorem dX2_darkCells_32 : decode cX2_darkCells 32 = .ok (.lreturn, 1) := by decide +kernel
theorem dX2_darknessInAll_0 : decode cX2_darknessInAll 0 = .ok (.iconst 0, 1) := by decide +kernel
theorem dX2_darknessInAll_1 : decode cX2_darknessInAll 1 = .ok (.istore_n 1, 1) := by decide +kernel
theorem dX2_darknessInAll_2 : decode cX2_darknessInAll 2 = .ok (.iconst 0, 1) := by decide +kernel
theorem dX2_darknessInAll_3 : decode cX2_darknessInAll 3 = .ok (.istore_n 2, 1) := by decide +kernel
theorem dX2_darknessInAll_4 : decode cX2_darknessInAll 4 = .ok (.iload_n 2, 1) := by decide +kernel
theorem dX2_darknessInAll_5 : decode cX2_darknessInAll 5 = .ok (.bipush 64, 2) := by decide +kernel
theorem dX2_darknessInAll_7 : decode cX2_darknessInAll 7 = .ok (.if_icmp .ge 18, 3) := by decide +kernel
theorem dX2_darknessInAll_10 : decode cX2_darknessInAll 10 = .ok (.iload_n 1, 1) := by decide +kernel
theorem dX2_darknessInAll_11 : decode cX2_darknessInAll 11 = .ok (.aload_n 0, 1) := by decide +kernel
theorem dX2_darknessInAll_12 : decode cX2_darknessInAll 12 = .ok (.getfield 15, 3) := by decide +kernel
theorem dX2_darknessInAll_15 : decode cX2_darknessInAll 15 = .ok (.iload_n 2, 1) := by decide +kernel
theorem dX2_darknessInAll_16 : decode cX2_darknessInAll 16 = .ok (.iaload, 1) := by decide +kernel
theorem dX2_darknessInAll_17 : decode cX2_darknessInAll 17 = .ok (.iadd, 1) := by decide +kernel
theorem dX2_darknessInAll_18 : decode cX2_darknessInAll 18 = .ok (.istore_n 1, 1) := by decide +kernel
theorem dX2_darknessInAll_19 : decode cX2_darknessInAll 19 = .ok (.iinc 2 1, 3) := by decide +kernel
theorem dX2_darknessInAll_22 : decode cX2_darknessInAll 22 = .ok (.goto (-18), 3) := by decide +kernel
theorem dX2_darknessInAll_25 : decode cX2_darknessInAll 25 = .ok (.iload_n 1, 1) := by decide +kernel
theorem dX2_darknessInAll_26 : decode cX2_darknessInAll 26 = .ok (.ireturn, 1) := by decide +kernel
theorem dX2_wantedCells_0 : decode cX2_wantedCells 0 = .ok (.lconst 0, 1) := by decide +kernel
theorem dX2_wantedCells_1 : decode cX2_wantedCells 1 = .ok (.lstore_n 1, 1) := by decide +kernel
theorem dX2_wantedCells_2 : decode cX2_wantedCells 2 = .ok (.iconst 0, 1) := by decide +kernel
theorem dX2_wantedCells_3 : decode cX2_wantedCells 3 = .ok (.istore_n 3, 1) := by decide +kernel
theorem dX2_wantedCells_4 : decode cX2_wantedCells 4 = .ok (.iload_n 3, 1) := by decide +kernel
theorem dX2_wantedCells_5 : decode cX2_wantedCells 5 = .ok (.aload_n 0, 1) := by decide +kernel
theorem dX2_wantedCells_6 : decode cX2_wantedCells 6 = .ok (.getfield 25, 3) := by decide +kernel
theorem dX2_wantedCells_9 : decode cX2_wantedCells 9 = .ok (.if_icmp .ge 20, 3) := by decide +kernel
theorem dX2_wantedCells_12 : decode cX2_wantedCells 12 = .ok (.lload_n 1, 1) := by decide +kernel
theorem dX2_wantedCells_13 : decode cX2_wantedCells 13 = .ok (.lconst 1, 1) := by decide +kernel
theorem dX2_wantedCells_14 : decode cX2_wantedCells 14 = .ok (.aload_n 0, 1) := by decide +kernel
theorem dX2_wantedCells_15 : decode cX2_wantedCells 15 = .ok (.getfield 22, 3) := by decide +kernel
theorem dX2_wantedCells_18 : decode cX2_wantedCells 18 = .ok (.iload_n 3, 1) := by decide +kernel
theorem dX2_wantedCells_19 : decode cX2_wantedCells 19 = .ok (.iaload, 1) := by decide +kernel
theorem dX2_wantedCells_20 : decode cX2_wantedCells 20 = .ok (.lshl, 1) := by decide +kernel
theorem dX2_wantedCells_21 : decode cX2_wantedCells 21 = .ok (.lor, 1) := by decide +kernel
theorem dX2_wantedCells_22 : decode cX2_wantedCells 22 = .ok (.lstore_n 1, 1) := by decide +kernel
theorem dX2_wantedCells_23 : decode cX2_wantedCells 23 = .ok (.iinc 3 1, 3) := by decide +kernel
theorem dX2_wantedCells_26 : decode cX2_wantedCells 26 = .ok (.goto (-22), 3) := by decide +kernel
theorem dX2_wantedCells_29 : decode cX2_wantedCells 29 = .ok (.lload_n 1, 1) := by decide +kernel
theorem dX2_wantedCells_30 : decode cX2_wantedCells 30 = .ok (.lreturn, 1) := by decide +kernel
theorem dX2_seenCellsOf_0 : decode cX2_seenCellsOf 0 = .ok (.lconst 0, 1) := by decide +kernel
theorem dX2_seenCellsOf_1 : decode cX2_seenCellsOf 1 = .ok (.lstore_n 2, 1) := by decide +kernel
theorem dX2_seenCellsOf_2 : decode cX2_seenCellsOf 2 = .ok (.iconst 0, 1) := by decide +kernel
theorem dX2_seenCellsOf_3 : decode cX2_seenCellsOf 3 = .ok (.istore 4, 2) := by decide +kernel
theorem dX2_seenCellsOf_5 : decode cX2_seenCellsOf 5 = .ok (.iload 4, 2) := by decide +kernel
theorem dX2_seenCellsOf_7 : decode cX2_seenCellsOf 7 = .ok (.aload_n 0, 1) := by decide +kernel
theorem dX2_seenCellsOf_8 : decode cX2_seenCellsOf 8 = .ok (.getfield 34, 3) := by decide +kernel
theorem dX2_seenCellsOf_11 : decode cX2_seenCellsOf 11 = .ok (.if_icmp .ge 32, 3) := by decide +kernel
theorem dX2_seenCellsOf_14 : decode cX2_seenCellsOf 14 = .ok (.aload_n 0, 1) := by decide +kernel
theorem dX2_seenCellsOf_15 : decode cX2_seenCellsOf 15 = .ok (.getfield 31, 3) := by decide +kernel
theorem dX2_seenCellsOf_18 : decode cX2_seenCellsOf 18 = .ok (.iload 4, 2) := by decide +kernel
theorem dX2_seenCellsOf_20 : decode cX2_seenCellsOf 20 = .ok (.iaload, 1) := by decide +kernel
theorem dX2_seenCellsOf_21 : decode cX2_seenCellsOf 21 = .ok (.iload_n 1, 1) := by decide +kernel
theorem dX2_seenCellsOf_22 : decode cX2_seenCellsOf 22 = .ok (.if_icmp .ne 15, 3) := by decide +kernel
theorem dX2_seenCellsOf_25 : decode cX2_seenCellsOf 25 = .ok (.lload_n 2, 1) := by decide +kernel
theorem dX2_seenCellsOf_26 : decode cX2_seenCellsOf 26 = .ok (.lconst 1, 1) := by decide +kernel
theorem dX2_seenCellsOf_27 : decode cX2_seenCellsOf 27 = .ok (.aload_n 0, 1) := by decide +kernel
theorem dX2_seenCellsOf_28 : decode cX2_seenCellsOf 28 = .ok (.getfield 28, 3) := by decide +kernel
theorem dX2_seenCellsOf_31 : decode cX2_seenCellsOf 31 = .ok (.iload 4, 2) := by decide +kernel
theorem dX2_seenCellsOf_33 : decode cX2_seenCellsOf 33 = .ok (.iaload, 1) := by decide +kernel
theorem dX2_seenCellsOf_34 : decode cX2_seenCellsOf 34 = .ok (.lshl, 1) := by decide +kernel
theorem dX2_seenCellsOf_35 : decode cX2_seenCellsOf 35 = .ok (.lor, 1) := by decide +kernel
theorem dX2_seenCellsOf_36 : decode cX2_seenCellsOf 36 = .ok (.lstore_n 2, 1) := by decide +kernel
theorem dX2_seenCellsOf_37 : decode cX2_seenCellsOf 37 = .ok (.iinc 4 1, 3) := by decide +kernel
theorem dX2_seenCellsOf_40 : decode cX2_seenCellsOf 40 = .ok (.goto (-35), 3) := by decide +kernel
theorem dX2_seenCellsOf_43 : decode cX2_seenCellsOf 43 = .ok (.lload_n 2, 1) := by decide +kernel
theorem dX2_seenCellsOf_44 : decode cX2_seenCellsOf 44 = .ok (.lreturn, 1) := by decide +kernel
theorem dX3_init_0 : decode cX3_init 0 = .ok (.aload_n 0, 1) := by decide +kernel
theorem dX3_init_1 : decode cX3_init 1 = .ok (.invokespecial 3, 3) := by decide +kernel
theorem dX3_init_4 : decode cX3_init 4 = .ok (.aload_n 0, 1) := by decide +kernel
theorem dX3_init_5 : decode cX3_init 5 = .ok (.sipush 150, 3) := by decide +kernel
theorem dX3_init_8 : decode cX3_init 8 = .ok (.newarray .byte, 2) := by decide +kernel
theorem dX3_init_10 : decode cX3_init 10 = .ok (.putfield 11, 3) := by decide +kernel
theorem dX3_init_13 : decode cX3_init 13 = .ok (.aload_n 0, 1) := by decide +kernel
theorem dX3_init_14 : decode cX3_init 14 = .ok (.iconst 0, 1) := by decide +kernel
theorem dX3_init_15 : decode cX3_init 15 = .ok (.putfield 15, 3) := by decide +kernel
theorem dX3_init_18 : decode cX3_init 18 = .ok (.aload_n 0, 1) := by decide +kernel
theorem dX3_init_19 : decode cX3_init 19 = .ok (.iconst 0, 1) := by decide +kernel
theorem dX3_init_20 : decode cX3_init 20 = .ok (.putfield 19, 3) := by decide +kernel
theorem dX3_init_23 : decode cX3_init 23 = .ok (.aload_n 0, 1) := by decide +kernel
theorem dX3_init_24 : decode cX3_init 24 = .ok (.iconst 0, 1) := by decide +kernel
theorem dX3_init_25 : decode cX3_init 25 = .ok (.putfield 22, 3) := by decide +kernel
theorem dX3_init_28 : decode cX3_init 28 = .ok (.aload_n 0, 1) := by decide +kernel
theorem dX3_init_29 : decode cX3_init 29 = .ok (.iconst 0, 1) := by decide +kernel
theorem dX3_init_30 : decode cX3_init 30 = .ok (.putfield 25, 3) := by decide +kernel
theorem dX3_init_33 : decode cX3_init 33 = .ok (.aload_n 0, 1) := by decide +kernel
theorem dX3_init_34 : decode cX3_init 34 = .ok (.iconst 0, 1) := by decide +kernel
theorem dX3_init_35 : decode cX3_init 35 = .ok (.putfield 28, 3) := by decide +kernel
theorem dX3_init_38 : decode cX3_init 38 = .ok (.aload_n 0, 1) := by decide +kernel
theorem dX3_init_39 : decode cX3_init 39 = .ok (.iconst 5, 1) := by decide +kernel
theorem dX3_init_40 : decode cX3_init 40 = .ok (.newarray .int, 2) := by decide +kernel
theorem dX3_init_42 : decode cX3_init 42 = .ok (.putfield 31, 3) := by decide +kernel
theorem dX3_init_45 : decode cX3_init 45 = .ok (.return_, 1) := by decide +kernel
theorem dX3_addByte_0 : decode cX3_addByte 0 = .ok (.aload_n 0, 1) := by decide +kernel
theorem dX3_addByte_1 : decode cX3_addByte 1 = .ok (.getfield 15, 3) := by decide +kernel
theorem dX3_addByte_4 : decode cX3_addByte 4 = .ok (.sipush 150, 3) := by decide +kernel
theorem dX3_addByte_7 : decode cX3_addByte 7 = .ok (.if_icmp .ge 24, 3) := by decide +kernel
theorem dX3_addByte_10 : decode cX3_addByte 10 = .ok (.aload_n 0, 1) := by decide +kernel
theorem dX3_addByte_11 : decode cX3_addByte 11 = .ok (.getfield 11, 3) := by decide +kernel
theorem dX3_addByte_14 : decode cX3_addByte 14 = .ok (.aload_n 0, 1) := by decide +kernel
theorem dX3_addByte_15 : decode cX3_addByte 15 = .ok (.getfield 15, 3) := by decide +kernel
theorem dX3_addByte_18 : decode cX3_addByte 18 = .ok (.iload_n 1, 1) := by decide +kernel
theorem dX3_addByte_19 : decode cX3_addByte 19 = .ok (.i2b, 1) := by decide +kernel
theorem dX3_addByte_20 : decode cX3_addByte 20 = .ok (.bastore, 1) := by decide +kernel
theorem dX3_addByte_21 : decode cX3_addByte 21 = .ok (.aload_n 0, 1) := by decide +kernel
theorem dX3_addByte_22 : decode cX3_addByte 22 = .ok (.dup, 1) := by decide +kernel
theorem dX3_addByte_23 : decode cX3_addByte 23 = .ok (.getfield 15, 3) := by decide +kernel
theorem dX3_addByte_26 : decode cX3_addByte 26 = .ok (.iconst 1, 1) := by decide +kernel
theorem dX3_addByte_27 : decode cX3_addByte 27 = .ok (.iadd, 1) := by decide +kernel
theorem dX3_addByte_28 : decode cX3_addByte 28 = .ok (.putfield 15, 3) := by decide +kernel
theorem dX3_addByte_31 : decode cX3_addByte 31 = .ok (.return_, 1) := by decide +kernel
theorem dX3_readInto_0 : decode cX3_readInto 0 = .ok (.aload_n 0, 1) := by decide +kernel
theorem dX3_readInto_1 : decode cX3_readInto 1 = .ok (.iconst 0, 1) := by decide +kernel
theorem dX3_readInto_2 : decode cX3_readInto 2 = .ok (.putfield 22, 3) := by decide +kernel
theorem dX3_readInto_5 : decode cX3_readInto 5 = .ok (.iconst 0, 1) := by decide +kernel
theorem dX3_readInto_6 : decode cX3_readInto 6 = .ok (.istore_n 2, 1) := by decide +kernel
theorem dX3_readInto_7 : decode cX3_readInto 7 = .ok (.iconst 0, 1) := by decide +kernel
theorem dX3_readInto_8 : decode cX3_readInto 8 = .ok (.istore_n 3, 1) := by decide +kernel
theorem dX3_readInto_9 : decode cX3_readInto 9 = .ok (.iload_n 3, 1) := by decide +kernel
theorem dX3_readInto_10 : decode cX3_readInto 10 = .ok (.sipush 150, 3) := by decide +kernel
theorem dX3_readInto_13 : decode cX3_readInto 13 = .ok (.if_icmp .gt 112, 3) := by decide +kernel
theorem dX3_readInto_16 : decode cX3_readInto 16 = .ok (.aload_n 0, 1) := by decide +kernel
theorem dX3_readInto_17 : decode cX3_readInto 17 = .ok (.invokevirtual 35, 3) := by decide +kernel
theorem dX3_readInto_20 : decode cX3_readInto 20 = .ok (.aload_n 0, 1) := by decide +kernel
theorem dX3_readInto_21 : decode cX3_readInto 21 = .ok (.getfield 25, 3) := by decide +kernel
theorem dX3_readInto_24 : decode cX3_readInto 24 = .ok (.ifCond .ne 9, 3) := by decide +kernel
theorem dX3_readInto_27 : decode cX3_readInto 27 = .ok (.iload_n 2, 1) := by decide +kernel
theorem dX3_readInto_28 : decode cX3_readInto 28 = .ok (.ifCond .le 5, 3) := by decide +kernel
theorem dX3_readInto_31 : decode cX3_readInto 31 = .ok (.iload_n 2, 1) := by decide +kernel
theorem dX3_readInto_32 : decode cX3_readInto 32 = .ok (.ireturn, 1) := by decide +kernel
theorem dX3_readInto_33 : decode cX3_readInto 33 = .ok (.aload_n 0, 1) := by decide +kernel
theorem dX3_readInto_34 : decode cX3_readInto 34 = .ok (.getfield 28, 3) := by decide +kernel
theorem dX3_readInto_37 : decode cX3_readInto 37 = .ok (.istore 4, 2) := by decide +kernel
theorem dX3_readInto_39 : decode cX3_readInto 39 = .ok (.aload_n 0, 1) := by decide +kernel
theorem dX3_readInto_40 : decode cX3_readInto 40 = .ok (.getfield 25, 3) := by decide +kernel
theorem dX3_readInto_43 : decode cX3_readInto 43 = .ok (.iconst 1, 1) := by decide +kernel
theorem dX3_readInto_44 : decode cX3_readInto 44 = .ok (.if_icmp .ne 37, 3) := by decide +kernel
theorem dX3_readInto_47 : decode cX3_readInto 47 = .ok (.iload 4, 2) := by decide +kernel
theorem dX3_readInto_49 : decode cX3_readInto 49 = .ok (.ifCond .ne 7, 3) := by decide +kernel
theorem dX3_readInto_52 : decode cX3_readInto 52 = .ok (.iconst 1, 1) := by decide +kernel
theorem dX3_readInto_53 : decode cX3_readInto 53 = .ok (.goto 4, 3) := by decide +kernel
theorem dX3_readInto_56 : decode cX3_readInto 56 = .ok (.iconst 0, 1) := by decide +kernel
theorem dX3_readInto_57 : decode cX3_readInto 57 = .ok (.iload_n 2, 1) := by decide +kernel
theorem dX3_readInto_58 : decode cX3_readInto 58 = .ok (.ifCond .ne 7, 3) := by decide +kernel
theorem dX3_readInto_61 : decode cX3_readInto 61 = .ok (.iconst 1, 1) := by decide +kernel
theorem dX3_readInto_62 : decode cX3_readInto 62 = .ok (.goto 4, 3) := by decide +kernel
theorem dX3_readInto_65 : decode cX3_readInto 65 = .ok (.iconst 0, 1) := by decide +kernel
theorem dX3_readInto_66 : decode cX3_readInto 66 = .ok (.if_icmp .ne 15, 3) := by decide +kernel
theorem dX3_readInto_69 : decode cX3_readInto 69 = .ok (.aload_n 0, 1) := by decide +kernel
theorem dX3_readInto_70 : decode cX3_readInto 70 = .ok (.iload 4, 2) := by decide +kernel
theorem dX3_readInto_72 : decode cX3_readInto 72 = .ok (.invokestatic 38, 3) := by decide +kernel
theorem dX3_readInto_75 : decode cX3_readInto 75 = .ok (.invokevirtual 42, 3) := by decide +kernel
theorem dX3_readInto_78 : decode cX3_readInto 78 = .ok (.ifCond .ne 11, 3) := by decide +kernel
theorem dX3_readInto_81 : decode cX3_readInto 81 = .ok (.bipush (-10), 2) := by decide +kernel
theorem dX3_readInto_83 : decode cX3_readInto 83 = .ok (.aload_n 0, 1) := by decide +kernel
theorem dX3_readInto_84 : decode cX3_readInto 84 = .ok (.getfield 19, 3) := by decide +kernel
theorem dX3_readInto_87 : decode cX3_readInto 87 = .ok (.isub, 1) := by decide +kernel
theorem dX3_readInto_88 : decode cX3_readInto 88 = .ok (.ireturn, 1) := by decide +kernel
theorem dX3_readInto_89 : decode cX3_readInto 89 = .ok (.aload_n 0, 1) := by decide +kernel
theorem dX3_readInto_90 : decode cX3_readInto 90 = .ok (.invokevirtual 35, 3) := by decide +kernel
theorem dX3_readInto_93 : decode cX3_readInto 93 = .ok (.aload_n 0, 1) := by decide +kernel
theorem dX3_readInto_94 : decode cX3_readInto 94 = .ok (.getfield 25, 3) := by decide +kernel
theorem dX3_readInto_97 : decode cX3_readInto 97 = .ok (.iconst 3, 1) := by decide +kernel
theorem dX3_readInto_98 : decode cX3_readInto 98 = .ok (.if_icmp .eq 11, 3) := by decide +kernel
theorem dX3_readInto_101 : decode cX3_readInto 101 = .ok (.bipush (-10), 2) := by decide +kernel
theorem dX3_readInto_103 : decode cX3_readInto 103 = .ok (.aload_n 0, 1) := by decide +kernel
theorem dX3_readInto_104 : decode cX3_readInto 104 = .ok (.getfield 19, 3) := by decide +kernel
theorem dX3_readInto_107 : decode cX3_readInto 107 = .ok (.isub, 1) := by decide +kernel
theorem dX3_readInto_108 : decode cX3_readInto 108 = .ok (.ireturn, 1) := by decide +kernel
theorem dX3_readInto_109 : decode cX3_readInto 109 = .ok (.aload_n 0, 1) := by decide +kernel
theorem dX3_readInto_110 : decode cX3_readInto 110 = .ok (.iload 4, 2) := by decide +kernel
theorem dX3_readInto_112 : decode cX3_readInto 112 = .ok (.aload_n 1, 1) := by decide +kernel
theorem dX3_readInto_113 : decode cX3_readInto 113 = .ok (.invokevirtual 46, 3) := by decide +kernel
theorem dX3_readInto_116 : decode cX3_readInto 116 = .ok (.iinc 2 1, 3) := by decide +kernel
theorem dX3_readInto_119 : decode cX3_readInto 119 = .ok (.iinc 3 1, 3) := by decide +kernel
theorem dX3_readInto_122 : decode cX3_readInto 122 = .ok (.goto (-113), 3) := by decide +kernel
theorem dX3_readInto_125 : decode cX3_readInto 125 = .ok (.iload_n 2, 1) := by decide +kernel
theorem dX3_readInto_126 : decode cX3_readInto 126 = .ok (.ireturn, 1) := by decide +kernel
theorem dX3_limitsOf_0 : decode cX3_limitsOf 0 = .ok (.iload_n 0, 1) := by decide +kernel
theorem dX3_limitsOf_1 : decode cX3_limitsOf 1 = .ok (.lookupswitch 35 #[(0, 27), (1, 31)], 27) := by decide +kernel
theorem dX3_limitsOf_28 : decode cX3_limitsOf 28 = .ok (.getstatic 50, 3) := by decide +kernel
theorem dX3_limitsOf_31 : decode cX3_limitsOf 31 = .ok (.areturn, 1) := by decide +kernel
theorem dX3_limitsOf_32 : decode cX3_limitsOf 32 = .ok (.getstatic 53, 3) := by decide +kernel
theorem dX3_limitsOf_35 : decode cX3_limitsOf 35 = .ok (.areturn, 1) := by decide +kernel
theorem dX3_limitsOf_36 : decode cX3_limitsOf 36 = .ok (.getstatic 56, 3) := by decide +kernel
theorem dX3_limitsOf_39 : decode cX3_limitsOf 39 = .ok (.areturn, 1) := by decide +kernel
theorem dX3_numbersStand_0 : decode cX3_numbersStand 0 = .ok (.iconst 0, 1) := by decide +kernel
theorem dX3_numbersStand_1 : decode cX3_numbersStand 1 = .ok (.istore_n 2, 1) := by decide +kernel
theorem dX3_numbersStand_2 : decode cX3_numbersStand 2 = .ok (.iload_n 2, 1) := by decide +kernel
theorem dX3_numbersStand_3 : decode cX3_numbersStand 3 = .ok (.aload_n 1, 1) := by decide +kernel
theorem dX3_numbersStand_4 : decode cX3_numbersStand 4 = .ok (.arraylength, 1) := by decide +kernel
theorem dX3_numbersStand_5 : decode cX3_numbersStand 5 = .ok (.if_icmp .ge 52, 3) := by decide +kernel
theorem dX3_numbersStand_8 : decode cX3_numbersStand 8 = .ok (.iload_n 2, 1) := by decide +kernel
theorem dX3_numbersStand_9 : decode cX3_numbersStand 9 = .ok (.aload_n 0, 1) := by decide +kernel
theorem dX3_numbersStand_10 : decode cX3_numbersStand 10 = .ok (.getfield 31, 3) := by decide +kernel
theorem dX3_numbersStand_13 : decode cX3_numbersStand 13 = .ok (.arraylength, 1) := by decide +kernel
theorem dX3_numbersStand_14 : decode cX3_numbersStand 14 = .ok (.if_icmp .ge 43, 3) := by decide +kernel
theorem dX3_numbersStand_17 : decode cX3_numbersStand 17 = .ok (.aload_n 0, 1) := by decide +kernel
theorem dX3_numbersStand_18 : decode cX3_numbersStand 18 = .ok (.invokevirtual 35, 3) := by decide +kernel
theorem dX3_numbersStand_21 : decode cX3_numbersStand 21 = .ok (.aload_n 0, 1) := by decide +kernel
theorem dX3_numbersStand_22 : decode cX3_numbersStand 22 = .ok (.getfield 25, 3) := by decide +kernel
theorem dX3_numbersStand_25 : decode cX3_numbersStand 25 = .ok (.iconst 2, 1) := by decide +kernel
theorem dX3_numbersStand_26 : decode cX3_numbersStand 26 = .ok (.if_icmp .ne 13, 3) := by decide +kernel
theorem dX3_numbersStand_29 : decode cX3_numbersStand 29 = .ok (.aload_n 0, 1) := by decide +kernel
theorem dX3_numbersStand_30 : decode cX3_numbersStand 30 = .ok (.getfield 28, 3) := by decide +kernel
theorem dX3_numbersStand_33 : decode cX3_numbersStand 33 = .ok (.aload_n 1, 1) := by decide +kernel
theorem dX3_numbersStand_34 : decode cX3_numbersStand 34 = .ok (.iload_n 2, 1) := by decide +kernel
theorem dX3_numbersStand_35 : decode cX3_numbersStand 35 = .ok (.iaload, 1) := by decide +kernel
theorem dX3_numbersStand_36 : decode cX3_numbersStand 36 = .ok (.if_icmp .le 5, 3) := by decide +kernel
theorem dX3_numbersStand_39 : decode cX3_numbersStand 39 = .ok (.iconst 0, 1) := by decide +kernel
theorem dX3_numbersStand_40 : decode cX3_numbersStand 40 = .ok (.ireturn, 1) := by decide +kernel
theorem dX3_numbersStand_41 : decode cX3_numbersStand 41 = .ok (.aload_n 0, 1) := by decide +kernel
theorem dX3_numbersStand_42 : decode cX3_numbersStand 42 = .ok (.getfield 31, 3) := by decide +kernel
theorem dX3_numbersStand_45 : decode cX3_numbersStand 45 = .ok (.iload_n 2, 1) := by decide +kernel
theorem dX3_numbersStand_46 : decode cX3_numbersStand 46 = .ok (.aload_n 0, 1) := by decide +kernel
theorem dX3_numbersStand_47 : decode cX3_numbersStand 47 = .ok (.getfield 28, 3) := by decide +kernel
theorem dX3_numbersStand_50 : decode cX3_numbersStand 50 = .ok (.iastore, 1) := by decide +kernel
theorem dX3_numbersStand_51 : decode cX3_numbersStand 51 = .ok (.iinc 2 1, 3) := by decide +kernel
theorem dX3_numbersStand_54 : decode cX3_numbersStand 54 = .ok (.goto (-52), 3) := by decide +kernel
theorem dX3_numbersStand_57 : decode cX3_numbersStand 57 = .ok (.iconst 1, 1) := by decide +kernel
theorem dX3_numbersStand_58 : decode cX3_numbersStand 58 = .ok (.ireturn, 1) := by decide +kernel
theorem dX3_putItem_0 : decode cX3_putItem 0 = .ok (.iload_n 1, 1) := by decide +kernel
theorem dX3_putItem_1 : decode cX3_putItem 1 = .ok (.lookupswitch 89 #[(0, 27), (1, 40)], 27) := by decide +kernel
theorem dX3_putItem_28 : decode cX3_putItem 28 = .ok (.aload_n 2, 1) := by decide +kernel
theorem dX3_putItem_29 : decode cX3_putItem 29 = .ok (.aload_n 0, 1) := by decide +kernel
theorem dX3_putItem_30 : decode cX3_putItem 30 = .ok (.getfield 31, 3) := by decide +kernel
theorem dX3_putItem_33 : decode cX3_putItem 33 = .ok (.iconst 0, 1) := by decide +kernel
theorem dX3_putItem_34 : decode cX3_putItem 34 = .ok (.iaload, 1) := by decide +kernel
theorem dX3_putItem_35 : decode cX3_putItem 35 = .ok (.invokevirtual 59, 3) := by decide +kernel
theorem dX3_putItem_38 : decode cX3_putItem 38 = .ok (.goto 87, 3) := by decide +kernel
theorem dX3_putItem_41 : decode cX3_putItem 41 = .ok (.aload_n 2, 1) := by decide +kernel
theorem dX3_putItem_42 : decode cX3_putItem 42 = .ok (.getfield 65, 3) := by decide +kernel
theorem dX3_putItem_45 : decode cX3_putItem 45 = .ok (.aload_n 0, 1) := by decide +kernel
theorem dX3_putItem_46 : decode cX3_putItem 46 = .ok (.getfield 31, 3) := by decide +kernel
theorem dX3_putItem_49 : decode cX3_putItem 49 = .ok (.iconst 0, 1) := by decide +kernel
theorem dX3_putItem_50 : decode cX3_putItem 50 = .ok (.iaload, 1) := by decide +kernel
theorem dX3_putItem_51 : decode cX3_putItem 51 = .ok (.aload_n 0, 1) := by decide +kernel
theorem dX3_putItem_52 : decode cX3_putItem 52 = .ok (.getfield 31, 3) := by decide +kernel
theorem dX3_putItem_55 : decode cX3_putItem 55 = .ok (.iconst 1, 1) := by decide +kernel
theorem dX3_putItem_56 : decode cX3_putItem 56 = .ok (.iaload, 1) := by decide +kernel
theorem dX3_putItem_57 : decode cX3_putItem 57 = .ok (.aload_n 0, 1) := by decide +kernel
theorem dX3_putItem_58 : decode cX3_putItem 58 = .ok (.getfield 31, 3) := by decide +kernel
theorem dX3_putItem_61 : decode cX3_putItem 61 = .ok (.iconst 2, 1) := by decide +kernel
theorem dX3_putItem_62 : decode cX3_putItem 62 = .ok (.iaload, 1) := by decide +kernel
theorem dX3_putItem_63 : decode cX3_putItem 63 = .ok (.iconst 4, 1) := by decide +kernel
theorem dX3_putItem_64 : decode cX3_putItem 64 = .ok (.ishl, 1) := by decide +kernel
theorem dX3_putItem_65 : decode cX3_putItem 65 = .ok (.ior, 1) := by decide +kernel
theorem dX3_putItem_66 : decode cX3_putItem 66 = .ok (.aload_n 0, 1) := by decide +kernel
theorem dX3_putItem_67 : decode cX3_putItem 67 = .ok (.getfield 31, 3) := by decide +kernel
theorem dX3_putItem_70 : decode cX3_putItem 70 = .ok (.iconst 3, 1) := by decide +kernel
theorem dX3_putItem_71 : decode cX3_putItem 71 = .ok (.iaload, 1) := by decide +kernel
theorem dX3_putItem_72 : decode cX3_putItem 72 = .ok (.bipush 8, 2) := by decide +kernel
theorem dX3_putItem_74 : decode cX3_putItem 74 = .ok (.ishl, 1) := by decide +kernel
theorem dX3_putItem_75 : decode cX3_putItem 75 = .ok (.ior, 1) := by decide +kernel
theorem dX3_putItem_76 : decode cX3_putItem 76 = .ok (.aload_n 0, 1) := by decide +kernel
theorem dX3_putItem_77 : decode cX3_putItem 77 = .ok (.getfield 31, 3) := by decide +kernel
theorem dX3_putItem_80 : decode cX3_putItem 80 = .ok (.iconst 4, 1) := by decide +kernel
theorem dX3_putItem_81 : decode cX3_putItem 81 = .ok (.iaload, 1) := by decide +kernel
theorem dX3_putItem_82 : decode cX3_putItem 82 = .ok (.bipush 12, 2) := by decide +kernel
theorem dX3_putItem_84 : decode cX3_putItem 84 = .ok (.ishl, 1) := by decide +kernel
theorem dX3_putItem_85 : decode cX3_putItem 85 = .ok (.ior, 1) := by decide +kernel
theorem dX3_putItem_86 : decode cX3_putItem 86 = .ok (.iastore, 1) := by decide +kernel
theorem dX3_putItem_87 : decode cX3_putItem 87 = .ok (.goto 38, 3) := by decide +kernel
theorem dX3_putItem_90 : decode cX3_putItem 90 = .ok (.aload_n 2, 1) := by decide +kernel
theorem dX3_putItem_91 : decode cX3_putItem 91 = .ok (.aload_n 0, 1) := by decide +kernel
theorem dX3_putItem_92 : decode cX3_putItem 92 = .ok (.getfield 31, 3) := by decide +kernel
theorem dX3_putItem_95 : decode cX3_putItem 95 = .ok (.iconst 0, 1) := by decide +kernel
theorem dX3_putItem_96 : decode cX3_putItem 96 = .ok (.iaload, 1) := by decide +kernel
theorem dX3_putItem_97 : decode cX3_putItem 97 = .ok (.aload_n 0, 1) := by decide +kernel
theorem dX3_putItem_98 : decode cX3_putItem 98 = .ok (.getfield 31, 3) := by decide +kernel
theorem dX3_putItem_101 : decode cX3_putItem 101 = .ok (.iconst 1, 1) := by decide +kernel
theorem dX3_putItem_102 : decode cX3_putItem 102 = .ok (.iaload, 1) := by decide +kernel
theorem dX3_putItem_103 : decode cX3_putItem 103 = .ok (.aload_n 0, 1) := by decide +kernel
theorem dX3_putItem_104 : decode cX3_putItem 104 = .ok (.getfield 31, 3) := by decide +kernel
theorem dX3_putItem_107 : decode cX3_putItem 107 = .ok (.iconst 2, 1) := by decide +kernel
theorem dX3_putItem_108 : decode cX3_putItem 108 = .ok (.iaload, 1) := by decide +kernel
theorem dX3_putItem_109 : decode cX3_putItem 109 = .ok (.aload_n 0, 1) := by decide +kernel
theorem dX3_putItem_110 : decode cX3_putItem 110 = .ok (.getfield 31, 3) := by decide +kernel
theorem dX3_putItem_113 : decode cX3_putItem 113 = .ok (.iconst 3, 1) := by decide +kernel
theorem dX3_putItem_114 : decode cX3_putItem 114 = .ok (.iaload, 1) := by decide +kernel
theorem dX3_putItem_115 : decode cX3_putItem 115 = .ok (.aload_n 0, 1) := by decide +kernel
theorem dX3_putItem_116 : decode cX3_putItem 116 = .ok (.getfield 31, 3) := by decide +kernel
theorem dX3_putItem_119 : decode cX3_putItem 119 = .ok (.iconst 4, 1) := by decide +kernel
theorem dX3_putItem_120 : decode cX3_putItem 120 = .ok (.iaload, 1) := by decide +kernel
theorem dX3_putItem_121 : decode cX3_putItem 121 = .ok (.invokevirtual 68, 3) := by decide +kernel
theorem dX3_putItem_124 : decode cX3_putItem 124 = .ok (.pop, 1) := by decide +kernel
theorem dX3_putItem_125 : decode cX3_putItem 125 = .ok (.return_, 1) := by decide +kernel
theorem dX3_nextToken_0 : decode cX3_nextToken 0 = .ok (.aload_n 0, 1) := by decide +kernel
theorem dX3_nextToken_1 : decode cX3_nextToken 1 = .ok (.aload_n 0, 1) := by decide +kernel
theorem dX3_nextToken_2 : decode cX3_nextToken 2 = .ok (.getfield 22, 3) := by decide +kernel
theorem dX3_nextToken_5 : decode cX3_nextToken 5 = .ok (.putfield 19, 3) := by decide +kernel
theorem dX3_nextToken_8 : decode cX3_nextToken 8 = .ok (.aload_n 0, 1) := by decide +kernel
theorem dX3_nextToken_9 : decode cX3_nextToken 9 = .ok (.getfield 19, 3) := by decide +kernel
theorem dX3_nextToken_12 : decode cX3_nextToken 12 = .ok (.aload_n 0, 1) := by decide +kernel
theorem dX3_nextToken_13 : decode cX3_nextToken 13 = .ok (.getfield 15, 3) := by decide +kernel
theorem dX3_nextToken_16 : decode cX3_nextToken 16 = .ok (.if_icmp .ge 30, 3) := by decide +kernel
theorem dX3_nextToken_19 : decode cX3_nextToken 19 = .ok (.aload_n 0, 1) := by decide +kernel
theorem dX3_nextToken_20 : decode cX3_nextToken 20 = .ok (.getfield 11, 3) := by decide +kernel
theorem dX3_nextToken_23 : decode cX3_nextToken 23 = .ok (.aload_n 0, 1) := by decide +kernel
theorem dX3_nextToken_24 : decode cX3_nextToken 24 = .ok (.getfield 19, 3) := by decide +kernel
theorem dX3_nextToken_27 : decode cX3_nextToken 27 = .ok (.baload, 1) := by decide +kernel
theorem dX3_nextToken_28 : decode cX3_nextToken 28 = .ok (.bipush 32, 2) := by decide +kernel
theorem dX3_nextToken_30 : decode cX3_nextToken 30 = .ok (.if_icmp .ne 16, 3) := by decide +kernel
theorem dX3_nextToken_33 : decode cX3_nextToken 33 = .ok (.aload_n 0, 1) := by decide +kernel
theorem dX3_nextToken_34 : decode cX3_nextToken 34 = .ok (.dup, 1) := by decide +kernel
theorem dX3_nextToken_35 : decode cX3_nextToken 35 = .ok (.getfield 19, 3) := by decide +kernel
theorem dX3_nextToken_38 : decode cX3_nextToken 38 = .ok (.iconst 1, 1) := by decide +kernel
theorem dX3_nextToken_39 : decode cX3_nextToken 39 = .ok (.iadd, 1) := by decide +kernel
theorem dX3_nextToken_40 : decode cX3_nextToken 40 = .ok (.putfield 19, 3) := by decide +kernel
theorem dX3_nextToken_43 : decode cX3_nextToken 43 = .ok (.goto (-35), 3) := by decide +kernel
theorem dX3_nextToken_46 : decode cX3_nextToken 46 = .ok (.aload_n 0, 1) := by decide +kernel
theorem dX3_nextToken_47 : decode cX3_nextToken 47 = .ok (.aload_n 0, 1) := by decide +kernel
theorem dX3_nextToken_48 : decode cX3_nextToken 48 = .ok (.getfield 19, 3) := by decide +kernel
theorem dX3_nextToken_51 : decode cX3_nextToken 51 = .ok (.putfield 22, 3) := by decide +kernel
theorem dX3_nextToken_54 : decode cX3_nextToken 54 = .ok (.aload_n 0, 1) := by decide +kernel
theorem dX3_nextToken_55 : decode cX3_nextToken 55 = .ok (.getfield 19, 3) := by decide +kernel
theorem dX3_nextToken_58 : decode cX3_nextToken 58 = .ok (.aload_n 0, 1) := by decide +kernel
theorem dX3_nextToken_59 : decode cX3_nextToken 59 = .ok (.getfield 15, 3) := by decide +kernel
theorem dX3_nextToken_62 : decode cX3_nextToken 62 = .ok (.if_icmp .lt 11, 3) := by decide +kernel
theorem dX3_nextToken_65 : decode cX3_nextToken 65 = .ok (.aload_n 0, 1) := by decide +kernel
theorem dX3_nextToken_66 : decode cX3_nextToken 66 = .ok (.iconst 0, 1) := by decide +kernel
theorem dX3_nextToken_67 : decode cX3_nextToken 67 = .ok (.putfield 25, 3) := by decide +kernel
theorem dX3_nextToken_70 : decode cX3_nextToken 70 = .ok (.goto 84, 3) := by decide +kernel
theorem dX3_nextToken_73 : decode cX3_nextToken 73 = .ok (.aload_n 0, 1) := by decide +kernel
theorem dX3_nextToken_74 : decode cX3_nextToken 74 = .ok (.getfield 11, 3) := by decide +kernel
theorem dX3_nextToken_77 : decode cX3_nextToken 77 = .ok (.aload_n 0, 1) := by decide +kernel
theorem dX3_nextToken_78 : decode cX3_nextToken 78 = .ok (.getfield 19, 3) := by decide +kernel
theorem dX3_nextToken_81 : decode cX3_nextToken 81 = .ok (.baload, 1) := by decide +kernel
theorem dX3_nextToken_82 : decode cX3_nextToken 82 = .ok (.bipush 59, 2) := by decide +kernel
theorem dX3_nextToken_84 : decode cX3_nextToken 84 = .ok (.if_icmp .ne 21, 3) := by decide +kernel
theorem dX3_nextToken_87 : decode cX3_nextToken 87 = .ok (.aload_n 0, 1) := by decide +kernel
theorem dX3_nextToken_88 : decode cX3_nextToken 88 = .ok (.iconst 3, 1) := by decide +kernel
theorem dX3_nextToken_89 : decode cX3_nextToken 89 = .ok (.putfield 25, 3) := by decide +kernel
theorem dX3_nextToken_92 : decode cX3_nextToken 92 = .ok (.aload_n 0, 1) := by decide +kernel
theorem dX3_nextToken_93 : decode cX3_nextToken 93 = .ok (.aload_n 0, 1) := by decide +kernel
theorem dX3_nextToken_94 : decode cX3_nextToken 94 = .ok (.getfield 19, 3) := by decide +kernel
theorem dX3_nextToken_97 : decode cX3_nextToken 97 = .ok (.iconst 1, 1) := by decide +kernel
theorem dX3_nextToken_98 : decode cX3_nextToken 98 = .ok (.iadd, 1) := by decide +kernel
theorem dX3_nextToken_99 : decode cX3_nextToken 99 = .ok (.putfield 22, 3) := by decide +kernel
theorem dX3_nextToken_102 : decode cX3_nextToken 102 = .ok (.goto 52, 3) := by decide +kernel
theorem dX3_nextToken_105 : decode cX3_nextToken 105 = .ok (.aload_n 0, 1) := by decide +kernel
theorem dX3_nextToken_106 : decode cX3_nextToken 106 = .ok (.aload_n 0, 1) := by decide +kernel
theorem dX3_nextToken_107 : decode cX3_nextToken 107 = .ok (.getfield 19, 3) := by decide +kernel
theorem dX3_nextToken_110 : decode cX3_nextToken 110 = .ok (.bipush 97, 2) := by decide +kernel
theorem dX3_nextToken_112 : decode cX3_nextToken 112 = .ok (.bipush 122, 2) := by decide +kernel
theorem dX3_nextToken_114 : decode cX3_nextToken 114 = .ok (.invokevirtual 72, 3) := by decide +kernel
theorem dX3_nextToken_117 : decode cX3_nextToken 117 = .ok (.ifCond .eq 10, 3) := by decide +kernel
theorem dX3_nextToken_120 : decode cX3_nextToken 120 = .ok (.aload_n 0, 1) := by decide +kernel
theorem dX3_nextToken_121 : decode cX3_nextToken 121 = .ok (.invokevirtual 76, 3) := by decide +kernel
theorem dX3_nextToken_124 : decode cX3_nextToken 124 = .ok (.goto 30, 3) := by decide +kernel
theorem dX3_nextToken_127 : decode cX3_nextToken 127 = .ok (.aload_n 0, 1) := by decide +kernel
theorem dX3_nextToken_128 : decode cX3_nextToken 128 = .ok (.aload_n 0, 1) := by decide +kernel
theorem dX3_nextToken_129 : decode cX3_nextToken 129 = .ok (.getfield 19, 3) := by decide +kernel
theorem dX3_nextToken_132 : decode cX3_nextToken 132 = .ok (.bipush 48, 2) := by decide +kernel
theorem dX3_nextToken_134 : decode cX3_nextToken 134 = .ok (.bipush 57, 2) := by decide +kernel
theorem dX3_nextToken_136 : decode cX3_nextToken 136 = .ok (.invokevirtual 72, 3) := by decide +kernel
theorem dX3_nextToken_139 : decode cX3_nextToken 139 = .ok (.ifCond .eq 10, 3) := by decide +kernel
theorem dX3_nextToken_142 : decode cX3_nextToken 142 = .ok (.aload_n 0, 1) := by decide +kernel
theorem dX3_nextToken_143 : decode cX3_nextToken 143 = .ok (.invokevirtual 79, 3) := by decide +kernel
theorem dX3_nextToken_146 : decode cX3_nextToken 146 = .ok (.goto 8, 3) := by decide +kernel
theorem dX3_nextToken_149 : decode cX3_nextToken 149 = .ok (.aload_n 0, 1) := by decide +kernel
theorem dX3_nextToken_150 : decode cX3_nextToken 150 = .ok (.iconst 4, 1) := by decide +kernel
theorem dX3_nextToken_151 : decode cX3_nextToken 151 = .ok (.putfield 25, 3) := by decide +kernel
theorem dX3_nextToken_154 : decode cX3_nextToken 154 = .ok (.return_, 1) := by decide +kernel
theorem dX3_isWithin_0 : decode cX3_isWithin 0 = .ok (.iload_n 1, 1) := by decide +kernel
theorem dX3_isWithin_1 : decode cX3_isWithin 1 = .ok (.aload_n 0, 1) := by decide +kernel
theorem dX3_isWithin_2 : decode cX3_isWithin 2 = .ok (.getfield 15, 3) := by decide +kernel
theorem dX3_isWithin_5 : decode cX3_isWithin 5 = .ok (.if_icmp .ge 27, 3) := by decide +kernel
theorem dX3_isWithin_8 : decode cX3_isWithin 8 = .ok (.aload_n 0, 1) := by decide +kernel
theorem dX3_isWithin_9 : decode cX3_isWithin 9 = .ok (.getfield 11, 3) := by decide +kernel
theorem dX3_isWithin_12 : decode cX3_isWithin 12 = .ok (.iload_n 1, 1) := by decide +kernel
theorem dX3_isWithin_13 : decode cX3_isWithin 13 = .ok (.baload, 1) := by decide +kernel
theorem dX3_isWithin_14 : decode cX3_isWithin 14 = .ok (.iload_n 2, 1) := by decide +kernel
theorem dX3_isWithin_15 : decode cX3_isWithin 15 = .ok (.if_icmp .lt 17, 3) := by decide +kernel
theorem dX3_isWithin_18 : decode cX3_isWithin 18 = .ok (.aload_n 0, 1) := by decide +kernel
theorem dX3_isWithin_19 : decode cX3_isWithin 19 = .ok (.getfield 11, 3) := by decide +kernel
theorem dX3_isWithin_22 : decode cX3_isWithin 22 = .ok (.iload_n 1, 1) := by decide +kernel
theorem dX3_isWithin_23 : decode cX3_isWithin 23 = .ok (.baload, 1) := by decide +kernel
theorem dX3_isWithin_24 : decode cX3_isWithin 24 = .ok (.iload_n 3, 1) := by decide +kernel
theorem dX3_isWithin_25 : decode cX3_isWithin 25 = .ok (.if_icmp .gt 7, 3) := by decide +kernel
theorem dX3_isWithin_28 : decode cX3_isWithin 28 = .ok (.iconst 1, 1) := by decide +kernel
theorem dX3_isWithin_29 : decode cX3_isWithin 29 = .ok (.goto 4, 3) := by decide +kernel
theorem dX3_isWithin_32 : decode cX3_isWithin 32 = .ok (.iconst 0, 1) := by decide +kernel
theorem dX3_isWithin_33 : decode cX3_isWithin 33 = .ok (.ireturn, 1) := by decide +kernel
theorem dX3_takeWord_0 : decode cX3_takeWord 0 = .ok (.aload_n 0, 1) := by decide +kernel
theorem dX3_takeWord_1 : decode cX3_takeWord 1 = .ok (.getfield 22, 3) := by decide +kernel
theorem dX3_takeWord_4 : decode cX3_takeWord 4 = .ok (.aload_n 0, 1) := by decide +kernel
theorem dX3_takeWord_5 : decode cX3_takeWord 5 = .ok (.getfield 15, 3) := by decide +kernel
theorem dX3_takeWord_8 : decode cX3_takeWord 8 = .ok (.if_icmp .ge 31, 3) := by decide +kernel
theorem dX3_takeWord_11 : decode cX3_takeWord 11 = .ok (.aload_n 0, 1) := by decide +kernel
theorem dX3_takeWord_12 : decode cX3_takeWord 12 = .ok (.aload_n 0, 1) := by decide +kernel
theorem dX3_takeWord_13 : decode cX3_takeWord 13 = .ok (.getfield 22, 3) := by decide +kernel
theorem dX3_takeWord_16 : decode cX3_takeWord 16 = .ok (.bipush 97, 2) := by decide +kernel
theorem dX3_takeWord_18 : decode cX3_takeWord 18 = .ok (.bipush 122, 2) := by decide +kernel
theorem dX3_takeWord_20 : decode cX3_takeWord 20 = .ok (.invokevirtual 72, 3) := by decide +kernel
theorem dX3_takeWord_23 : decode cX3_takeWord 23 = .ok (.ifCond .eq 16, 3) := by decide +kernel
theorem dX3_takeWord_26 : decode cX3_takeWord 26 = .ok (.aload_n 0, 1) := by decide +kernel
theorem dX3_takeWord_27 : decode cX3_takeWord 27 = .ok (.dup, 1) := by decide +kernel
theorem dX3_takeWord_28 : decode cX3_takeWord 28 = .ok (.getfield 22, 3) := by decide +kernel
theorem dX3_takeWord_31 : decode cX3_takeWord 31 = .ok (.iconst 1, 1) := by decide +kernel
theorem dX3_takeWord_32 : decode cX3_takeWord 32 = .ok (.iadd, 1) := by decide +kernel
theorem dX3_takeWord_33 : decode cX3_takeWord 33 = .ok (.putfield 22, 3) := by decide +kernel
theorem dX3_takeWord_36 : decode cX3_takeWord 36 = .ok (.goto (-36), 3) := by decide +kernel
theorem dX3_takeWord_39 : decode cX3_takeWord 39 = .ok (.aload_n 0, 1) := by decide +kernel
theorem dX3_takeWord_40 : decode cX3_takeWord 40 = .ok (.iconst 1, 1) := by decide +kernel
theorem dX3_takeWord_41 : decode cX3_takeWord 41 = .ok (.putfield 25, 3) := by decide +kernel
theorem dX3_takeWord_44 : decode cX3_takeWord 44 = .ok (.aload_n 0, 1) := by decide +kernel
theorem dX3_takeWord_45 : decode cX3_takeWord 45 = .ok (.ldc 82, 2) := by decide +kernel
theorem dX3_takeWord_47 : decode cX3_takeWord 47 = .ok (.invokevirtual 84, 3) := by decide +kernel
theorem dX3_takeWord_50 : decode cX3_takeWord 50 = .ok (.ifCond .eq 11, 3) := by decide +kernel
theorem dX3_takeWord_53 : decode cX3_takeWord 53 = .ok (.aload_n 0, 1) := by decide +kernel
theorem dX3_takeWord_54 : decode cX3_takeWord 54 = .ok (.iconst 0, 1) := by decide +kernel
theorem dX3_takeWord_55 : decode cX3_takeWord 55 = .ok (.putfield 28, 3) := by decide +kernel
theorem dX3_takeWord_58 : decode cX3_takeWord 58 = .ok (.goto 42, 3) := by decide +kernel
theorem dX3_takeWord_61 : decode cX3_takeWord 61 = .ok (.aload_n 0, 1) := by decide +kernel
theorem dX3_takeWord_62 : decode cX3_takeWord 62 = .ok (.ldc 88, 2) := by decide +kernel
theorem dX3_takeWord_64 : decode cX3_takeWord 64 = .ok (.invokevirtual 84, 3) := by decide +kernel
theorem dX3_takeWord_67 : decode cX3_takeWord 67 = .ok (.ifCond .eq 11, 3) := by decide +kernel
theorem dX3_takeWord_70 : decode cX3_takeWord 70 = .ok (.aload_n 0, 1) := by decide +kernel
theorem dX3_takeWord_71 : decode cX3_takeWord 71 = .ok (.iconst 1, 1) := by decide +kernel
theorem dX3_takeWord_72 : decode cX3_takeWord 72 = .ok (.putfield 28, 3) := by decide +kernel
theorem dX3_takeWord_75 : decode cX3_takeWord 75 = .ok (.goto 25, 3) := by decide +kernel
theorem dX3_takeWord_78 : decode cX3_takeWord 78 = .ok (.aload_n 0, 1) := by decide +kernel
theorem dX3_takeWord_79 : decode cX3_takeWord 79 = .ok (.ldc 90, 2) := by decide +kernel
theorem dX3_takeWord_81 : decode cX3_takeWord 81 = .ok (.invokevirtual 84, 3) := by decide +kernel
theorem dX3_takeWord_84 : decode cX3_takeWord 84 = .ok (.ifCond .eq 11, 3) := by decide +kernel
theorem dX3_takeWord_87 : decode cX3_takeWord 87 = .ok (.aload_n 0, 1) := by decide +kernel
theorem dX3_takeWord_88 : decode cX3_takeWord 88 = .ok (.iconst 2, 1) := by decide +kernel
theorem dX3_takeWord_89 : decode cX3_takeWord 89 = .ok (.putfield 28, 3) := by decide +kernel
theorem dX3_takeWord_92 : decode cX3_takeWord 92 = .ok (.goto 8, 3) := by decide +kernel
theorem dX3_takeWord_95 : decode cX3_takeWord 95 = .ok (.aload_n 0, 1) := by decide +kernel
theorem dX3_takeWord_96 : decode cX3_takeWord 96 = .ok (.iconst 4, 1) := by decide +kernel
theorem dX3_takeWord_97 : decode cX3_takeWord 97 = .ok (.putfield 25, 3) := by decide +kernel
theorem dX3_takeWord_100 : decode cX3_takeWord 100 = .ok (.return_, 1) := by decide +kernel
theorem dX3_isTheWord_0 : decode cX3_isTheWord 0 = .ok (.aload_n 0, 1) := by decide +kernel
theorem dX3_isTheWord_1 : decode cX3_isTheWord 1 = .ok (.getfield 22, 3) := by decide +kernel
theorem dX3_isTheWord_4 : decode cX3_isTheWord 4 = .ok (.aload_n 0, 1) := by decide +kernel
theorem dX3_isTheWord_5 : decode cX3_isTheWord 5 = .ok (.getfield 19, 3) := by decide +kernel
theorem dX3_isTheWord_8 : decode cX3_isTheWord 8 = .ok (.isub, 1) := by decide +kernel
theorem dX3_isTheWord_9 : decode cX3_isTheWord 9 = .ok (.aload_n 1, 1) := by decide +kernel
theorem dX3_isTheWord_10 : decode cX3_isTheWord 10 = .ok (.invokevirtual 92, 3) := by decide +kernel
theorem dX3_isTheWord_13 : decode cX3_isTheWord 13 = .ok (.if_icmp .eq 5, 3) := by decide +kernel
theorem dX3_isTheWord_16 : decode cX3_isTheWord 16 = .ok (.iconst 0, 1) := by decide +kernel
theorem dX3_isTheWord_17 : decode cX3_isTheWord 17 = .ok (.ireturn, 1) := by decide +kernel
theorem dX3_isTheWord_18 : decode cX3_isTheWord 18 = .ok (.iconst 0, 1) := by decide +kernel
theorem dX3_isTheWord_19 : decode cX3_isTheWord 19 = .ok (.istore_n 2, 1) := by decide +kernel
theorem dX3_isTheWord_20 : decode cX3_isTheWord 20 = .ok (.iload_n 2, 1) := by decide +kernel
theorem dX3_isTheWord_21 : decode cX3_isTheWord 21 = .ok (.aload_n 1, 1) := by decide +kernel
theorem dX3_isTheWord_22 : decode cX3_isTheWord 22 = .ok (.invokevirtual 92, 3) := by decide +kernel
theorem dX3_isTheWord_25 : decode cX3_isTheWord 25 = .ok (.if_icmp .ge 43, 3) := by decide +kernel
theorem dX3_isTheWord_28 : decode cX3_isTheWord 28 = .ok (.aload_n 0, 1) := by decide +kernel
theorem dX3_isTheWord_29 : decode cX3_isTheWord 29 = .ok (.getfield 19, 3) := by decide +kernel
theorem dX3_isTheWord_32 : decode cX3_isTheWord 32 = .ok (.iload_n 2, 1) := by decide +kernel
theorem dX3_isTheWord_33 : decode cX3_isTheWord 33 = .ok (.iadd, 1) := by decide +kernel
theorem dX3_isTheWord_34 : decode cX3_isTheWord 34 = .ok (.aload_n 0, 1) := by decide +kernel
theorem dX3_isTheWord_35 : decode cX3_isTheWord 35 = .ok (.getfield 15, 3) := by decide +kernel
theorem dX3_isTheWord_38 : decode cX3_isTheWord 38 = .ok (.if_icmp .ge 22, 3) := by decide +kernel
theorem dX3_isTheWord_41 : decode cX3_isTheWord 41 = .ok (.aload_n 0, 1) := by decide +kernel
theorem dX3_isTheWord_42 : decode cX3_isTheWord 42 = .ok (.getfield 11, 3) := by decide +kernel
theorem dX3_isTheWord_45 : decode cX3_isTheWord 45 = .ok (.aload_n 0, 1) := by decide +kernel
theorem dX3_isTheWord_46 : decode cX3_isTheWord 46 = .ok (.getfield 19, 3) := by decide +kernel
theorem dX3_isTheWord_49 : decode cX3_isTheWord 49 = .ok (.iload_n 2, 1) := by decide +kernel
theorem dX3_isTheWord_50 : decode cX3_isTheWord 50 = .ok (.iadd, 1) := by decide +kernel
theorem dX3_isTheWord_51 : decode cX3_isTheWord 51 = .ok (.baload, 1) := by decide +kernel
theorem dX3_isTheWord_52 : decode cX3_isTheWord 52 = .ok (.aload_n 1, 1) := by decide +kernel
theorem dX3_isTheWord_53 : decode cX3_isTheWord 53 = .ok (.iload_n 2, 1) := by decide +kernel
theorem dX3_isTheWord_54 : decode cX3_isTheWord 54 = .ok (.invokevirtual 97, 3) := by decide +kernel
theorem dX3_isTheWord_57 : decode cX3_isTheWord 57 = .ok (.if_icmp .eq 5, 3) := by decide +kernel
theorem dX3_isTheWord_60 : decode cX3_isTheWord 60 = .ok (.iconst 0, 1) := by decide +kernel
theorem dX3_isTheWord_61 : decode cX3_isTheWord 61 = .ok (.ireturn, 1) := by decide +kernel
theorem dX3_isTheWord_62 : decode cX3_isTheWord 62 = .ok (.iinc 2 1, 3) := by decide +kernel
theorem dX3_isTheWord_65 : decode cX3_isTheWord 65 = .ok (.goto (-45), 3) := by decide +kernel
theorem dX3_isTheWord_68 : decode cX3_isTheWord 68 = .ok (.iconst 1, 1) := by decide +kernel
theorem dX3_isTheWord_69 : decode cX3_isTheWord 69 = .ok (.ireturn, 1) := by decide +kernel
theorem dX3_takeNumber_0 : decode cX3_takeNumber 0 = .ok (.aload_n 0, 1) := by decide +kernel
theorem dX3_takeNumber_1 : decode cX3_takeNumber 1 = .ok (.iconst 0, 1) := by decide +kernel
theorem dX3_takeNumber_2 : decode cX3_takeNumber 2 = .ok (.putfield 28, 3) := by decide +kernel
theorem dX3_takeNumber_5 : decode cX3_takeNumber 5 = .ok (.aload_n 0, 1) := by decide +kernel
theorem dX3_takeNumber_6 : decode cX3_takeNumber 6 = .ok (.getfield 22, 3) := by decide +kernel
theorem dX3_takeNumber_9 : decode cX3_takeNumber 9 = .ok (.aload_n 0, 1) := by decide +kernel
theorem dX3_takeNumber_10 : decode cX3_takeNumber 10 = .ok (.getfield 15, 3) := by decide +kernel
theorem dX3_takeNumber_13 : decode cX3_takeNumber 13 = .ok (.if_icmp .ge 55, 3) := by decide +kernel
theorem dX3_takeNumber_16 : decode cX3_takeNumber 16 = .ok (.aload_n 0, 1) := by decide +kernel
theorem dX3_takeNumber_17 : decode cX3_takeNumber 17 = .ok (.aload_n 0, 1) := by decide +kernel
theorem dX3_takeNumber_18 : decode cX3_takeNumber 18 = .ok (.getfield 22, 3) := by decide +kernel
theorem dX3_takeNumber_21 : decode cX3_takeNumber 21 = .ok (.bipush 48, 2) := by decide +kernel
theorem dX3_takeNumber_23 : decode cX3_takeNumber 23 = .ok (.bipush 57, 2) := by decide +kernel
theorem dX3_takeNumber_25 : decode cX3_takeNumber 25 = .ok (.invokevirtual 72, 3) := by decide +kernel
theorem dX3_takeNumber_28 : decode cX3_takeNumber 28 = .ok (.ifCond .eq 40, 3) := by decide +kernel
theorem dX3_takeNumber_31 : decode cX3_takeNumber 31 = .ok (.aload_n 0, 1) := by decide +kernel
theorem dX3_takeNumber_32 : decode cX3_takeNumber 32 = .ok (.bipush 10, 2) := by decide +kernel
theorem dX3_takeNumber_34 : decode cX3_takeNumber 34 = .ok (.aload_n 0, 1) := by decide +kernel
theorem dX3_takeNumber_35 : decode cX3_takeNumber 35 = .ok (.getfield 28, 3) := by decide +kernel
theorem dX3_takeNumber_38 : decode cX3_takeNumber 38 = .ok (.imul, 1) := by decide +kernel
theorem dX3_takeNumber_39 : decode cX3_takeNumber 39 = .ok (.aload_n 0, 1) := by decide +kernel
theorem dX3_takeNumber_40 : decode cX3_takeNumber 40 = .ok (.getfield 11, 3) := by decide +kernel
theorem dX3_takeNumber_43 : decode cX3_takeNumber 43 = .ok (.aload_n 0, 1) := by decide +kernel
theorem dX3_takeNumber_44 : decode cX3_takeNumber 44 = .ok (.getfield 22, 3) := by decide +kernel
theorem dX3_takeNumber_47 : decode cX3_takeNumber 47 = .ok (.baload, 1) := by decide +kernel
theorem dX3_takeNumber_48 : decode cX3_takeNumber 48 = .ok (.iadd, 1) := by decide +kernel
theorem dX3_takeNumber_49 : decode cX3_takeNumber 49 = .ok (.bipush 48, 2) := by decide +kernel
theorem dX3_takeNumber_51 : decode cX3_takeNumber 51 = .ok (.isub, 1) := by decide +kernel
theorem dX3_takeNumber_52 : decode cX3_takeNumber 52 = .ok (.putfield 28, 3) := by decide +kernel
theorem dX3_takeNumber_55 : decode cX3_takeNumber 55 = .ok (.aload_n 0, 1) := by decide +kernel
theorem dX3_takeNumber_56 : decode cX3_takeNumber 56 = .ok (.dup, 1) := by decide +kernel
theorem dX3_takeNumber_57 : decode cX3_takeNumber 57 = .ok (.getfield 22, 3) := by decide +kernel
theorem dX3_takeNumber_60 : decode cX3_takeNumber 60 = .ok (.iconst 1, 1) := by decide +kernel
theorem dX3_takeNumber_61 : decode cX3_takeNumber 61 = .ok (.iadd, 1) := by decide +kernel
theorem dX3_takeNumber_62 : decode cX3_takeNumber 62 = .ok (.putfield 22, 3) := by decide +kernel
theorem dX3_takeNumber_65 : decode cX3_takeNumber 65 = .ok (.goto (-60), 3) := by decide +kernel
theorem dX3_takeNumber_68 : decode cX3_takeNumber 68 = .ok (.aload_n 0, 1) := by decide +kernel
theorem dX3_takeNumber_69 : decode cX3_takeNumber 69 = .ok (.aload_n 0, 1) := by decide +kernel
theorem dX3_takeNumber_70 : decode cX3_takeNumber 70 = .ok (.getfield 22, 3) := by decide +kernel
theorem dX3_takeNumber_73 : decode cX3_takeNumber 73 = .ok (.aload_n 0, 1) := by decide +kernel
theorem dX3_takeNumber_74 : decode cX3_takeNumber 74 = .ok (.getfield 19, 3) := by decide +kernel
theorem dX3_takeNumber_77 : decode cX3_takeNumber 77 = .ok (.isub, 1) := by decide +kernel
theorem dX3_takeNumber_78 : decode cX3_takeNumber 78 = .ok (.iconst 2, 1) := by decide +kernel
theorem dX3_takeNumber_79 : decode cX3_takeNumber 79 = .ok (.if_icmp .gt 7, 3) := by decide +kernel
theorem dX3_takeNumber_82 : decode cX3_takeNumber 82 = .ok (.iconst 2, 1) := by decide +kernel
theorem dX3_takeNumber_83 : decode cX3_takeNumber 83 = .ok (.goto 4, 3) := by decide +kernel
theorem dX3_takeNumber_86 : decode cX3_takeNumber 86 = .ok (.iconst 4, 1) := by decide +kernel
theorem dX3_takeNumber_87 : decode cX3_takeNumber 87 = .ok (.putfield 25, 3) := by decide +kernel
theorem dX3_takeNumber_90 : decode cX3_takeNumber 90 = .ok (.return_, 1) := by decide +kernel
theorem dX4_init_0 : decode cX4_init 0 = .ok (.aload_n 0, 1) := by decide +kernel
theorem dX4_init_1 : decode cX4_init 1 = .ok (.invokespecial 1, 3) := by decide +kernel
theorem dX4_init_4 : decode cX4_init 4 = .ok (.aload_n 0, 1) := by decide +kernel
theorem dX4_init_5 : decode cX4_init 5 = .ok (.new 7, 3) := by decide +kernel
theorem dX4_init_8 : decode cX4_init 8 = .ok (.dup, 1) := by decide +kernel
theorem dX4_init_9 : decode cX4_init 9 = .ok (.invokespecial 9, 3) := by decide +kernel
theorem dX4_init_12 : decode cX4_init 12 = .ok (.putfield 10, 3) := by decide +kernel
theorem dX4_init_15 : decode cX4_init 15 = .ok (.aload_n 0, 1) := by decide +kernel
theorem dX4_init_16 : decode cX4_init 16 = .ok (.new 7, 3) := by decide +kernel
theorem dX4_init_19 : decode cX4_init 19 = .ok (.dup, 1) := by decide +kernel
theorem dX4_init_20 : decode cX4_init 20 = .ok (.invokespecial 9, 3) := by decide +kernel
theorem dX4_init_23 : decode cX4_init 23 = .ok (.putfield 16, 3) := by decide +kernel
theorem dX4_init_26 : decode cX4_init 26 = .ok (.aload_n 0, 1) := by decide +kernel
theorem dX4_init_27 : decode cX4_init 27 = .ok (.iconst 2, 1) := by decide +kernel
theorem dX4_init_28 : decode cX4_init 28 = .ok (.anewarray 7, 3) := by decide +kernel
theorem dX4_init_31 : decode cX4_init 31 = .ok (.putfield 19, 3) := by decide +kernel
theorem dX4_init_34 : decode cX4_init 34 = .ok (.aload_n 0, 1) := by decide +kernel
theorem dX4_init_35 : decode cX4_init 35 = .ok (.new 23, 3) := by decide +kernel
theorem dX4_init_38 : decode cX4_init 38 = .ok (.dup, 1) := by decide +kernel
theorem dX4_init_39 : decode cX4_init 39 = .ok (.invokespecial 25, 3) := by decide +kernel
theorem dX4_init_42 : decode cX4_init 42 = .ok (.putfield 26, 3) := by decide +kernel
theorem dX4_init_45 : decode cX4_init 45 = .ok (.aload_n 0, 1) := by decide +kernel
theorem dX4_init_46 : decode cX4_init 46 = .ok (.sipush 256, 3) := by decide +kernel
theorem dX4_init_49 : decode cX4_init 49 = .ok (.newarray .long, 2) := by decide +kernel
theorem dX4_init_51 : decode cX4_init 51 = .ok (.putfield 30, 3) := by decide +kernel
theorem dX4_init_54 : decode cX4_init 54 = .ok (.aload_n 0, 1) := by decide +kernel
theorem dX4_init_55 : decode cX4_init 55 = .ok (.lconst 0, 1) := by decide +kernel
theorem dX4_init_56 : decode cX4_init 56 = .ok (.putfield 34, 3) := by decide +kernel
theorem dX4_init_59 : decode cX4_init 59 = .ok (.aload_n 0, 1) := by decide +kernel
theorem dX4_init_60 : decode cX4_init 60 = .ok (.lconst 1, 1) := by decide +kernel
theorem dX4_init_61 : decode cX4_init 61 = .ok (.putfield 38, 3) := by decide +kernel
theorem dX4_init_64 : decode cX4_init 64 = .ok (.aload_n 0, 1) := by decide +kernel
theorem dX4_init_65 : decode cX4_init 65 = .ok (.iconst 0, 1) := by decide +kernel
theorem dX4_init_66 : decode cX4_init 66 = .ok (.putfield 41, 3) := by decide +kernel
theorem dX4_init_69 : decode cX4_init 69 = .ok (.aload_n 0, 1) := by decide +kernel
theorem dX4_init_70 : decode cX4_init 70 = .ok (.iconst 0, 1) := by decide +kernel
theorem dX4_init_71 : decode cX4_init 71 = .ok (.putfield 45, 3) := by decide +kernel
theorem dX4_init_74 : decode cX4_init 74 = .ok (.aload_n 0, 1) := by decide +kernel
theorem dX4_init_75 : decode cX4_init 75 = .ok (.iconst 0, 1) := by decide +kernel
theorem dX4_init_76 : decode cX4_init 76 = .ok (.putfield 48, 3) := by decide +kernel
theorem dX4_init_79 : decode cX4_init 79 = .ok (.return_, 1) := by decide +kernel
theorem dX4_table_0 : decode cX4_table 0 = .ok (.iload_n 1, 1) := by decide +kernel
theorem dX4_table_1 : decode cX4_table 1 = .ok (.iconst 0, 1) := by decide +kernel
theorem dX4_table_2 : decode cX4_table 2 = .ok (.bipush 12, 2) := by decide +kernel
theorem dX4_table_4 : decode cX4_table 4 = .ok (.invokestatic 51, 3) := by decide +kernel
theorem dX4_table_7 : decode cX4_table 7 = .ok (.ifCond .ne 10, 3) := by decide +kernel
theorem dX4_table_10 : decode cX4_table 10 = .ok (.aload_n 0, 1) := by decide +kernel
theorem dX4_table_11 : decode cX4_table 11 = .ok (.bipush (-2), 2) := by decide +kernel
theorem dX4_table_13 : decode cX4_table 13 = .ok (.invokevirtual 55, 3) := by decide +kernel
theorem dX4_table_16 : decode cX4_table 16 = .ok (.ireturn, 1) := by decide +kernel
theorem dX4_table_17 : decode cX4_table 17 = .ok (.aload_n 0, 1) := by decide +kernel
theorem dX4_table_18 : decode cX4_table 18 = .ok (.getfield 10, 3) := by decide +kernel
theorem dX4_table_21 : decode cX4_table 21 = .ok (.invokevirtual 59, 3) := by decide +kernel
theorem dX4_table_24 : decode cX4_table 24 = .ok (.invokestatic 63, 3) := by decide +kernel
theorem dX4_table_27 : decode cX4_table 27 = .ok (.istore_n 2, 1) := by decide +kernel
theorem dX4_table_28 : decode cX4_table 28 = .ok (.aload_n 0, 1) := by decide +kernel
theorem dX4_table_29 : decode cX4_table 29 = .ok (.getfield 10, 3) := by decide +kernel
theorem dX4_table_32 : decode cX4_table 32 = .ok (.iload_n 1, 1) := by decide +kernel
theorem dX4_table_33 : decode cX4_table 33 = .ok (.invokevirtual 69, 3) := by decide +kernel
theorem dX4_table_36 : decode cX4_table 36 = .ok (.iload_n 2, 1) := by decide +kernel
theorem dX4_table_37 : decode cX4_table 37 = .ok (.ireturn, 1) := by decide +kernel
theorem dX4_cut_0 : decode cX4_cut 0 = .ok (.iload_n 1, 1) := by decide +kernel
theorem dX4_cut_1 : decode cX4_cut 1 = .ok (.iconst 0, 1) := by decide +kernel
theorem dX4_cut_2 : decode cX4_cut 2 = .ok (.iconst 1, 1) := by decide +kernel
theorem dX4_cut_3 : decode cX4_cut 3 = .ok (.invokestatic 51, 3) := by decide +kernel
theorem dX4_cut_6 : decode cX4_cut 6 = .ok (.ifCond .eq 13, 3) := by decide +kernel
theorem dX4_cut_9 : decode cX4_cut 9 = .ok (.iload_n 2, 1) := by decide +kernel
theorem dX4_cut_10 : decode cX4_cut 10 = .ok (.iconst 0, 1) := by decide +kernel
theorem dX4_cut_11 : decode cX4_cut 11 = .ok (.ldc 73, 2) := by decide +kernel
theorem dX4_cut_13 : decode cX4_cut 13 = .ok (.invokestatic 51, 3) := by decide +kernel
theorem dX4_cut_16 : decode cX4_cut 16 = .ok (.ifCond .ne 10, 3) := by decide +kernel
theorem dX4_cut_19 : decode cX4_cut 19 = .ok (.aload_n 0, 1) := by decide +kernel
theorem dX4_cut_20 : decode cX4_cut 20 = .ok (.bipush (-2), 2) := by decide +kernel
theorem dX4_cut_22 : decode cX4_cut 22 = .ok (.invokevirtual 55, 3) := by decide +kernel
theorem dX4_cut_25 : decode cX4_cut 25 = .ok (.ireturn, 1) := by decide +kernel
theorem dX4_cut_26 : decode cX4_cut 26 = .ok (.aload_n 0, 1) := by decide +kernel
theorem dX4_cut_27 : decode cX4_cut 27 = .ok (.getfield 10, 3) := by decide +kernel
theorem dX4_cut_30 : decode cX4_cut 30 = .ok (.getfield 74, 3) := by decide +kernel
theorem dX4_cut_33 : decode cX4_cut 33 = .ok (.iload_n 1, 1) := by decide +kernel
theorem dX4_cut_34 : decode cX4_cut 34 = .ok (.iaload, 1) := by decide +kernel
theorem dX4_cut_35 : decode cX4_cut 35 = .ok (.istore_n 3, 1) := by decide +kernel
theorem dX4_cut_36 : decode cX4_cut 36 = .ok (.aload_n 0, 1) := by decide +kernel
theorem dX4_cut_37 : decode cX4_cut 37 = .ok (.getfield 10, 3) := by decide +kernel
theorem dX4_cut_40 : decode cX4_cut 40 = .ok (.getfield 74, 3) := by decide +kernel
theorem dX4_cut_43 : decode cX4_cut 43 = .ok (.iload_n 1, 1) := by decide +kernel
theorem dX4_cut_44 : decode cX4_cut 44 = .ok (.iload_n 2, 1) := by decide +kernel
theorem dX4_cut_45 : decode cX4_cut 45 = .ok (.iastore, 1) := by decide +kernel
theorem dX4_cut_46 : decode cX4_cut 46 = .ok (.aload_n 0, 1) := by decide +kernel
theorem dX4_cut_47 : decode cX4_cut 47 = .ok (.getfield 10, 3) := by decide +kernel
theorem dX4_cut_50 : decode cX4_cut 50 = .ok (.iconst 0, 1) := by decide +kernel
theorem dX4_cut_51 : decode cX4_cut 51 = .ok (.putfield 78, 3) := by decide +kernel
theorem dX4_cut_54 : decode cX4_cut 54 = .ok (.iload_n 3, 1) := by decide +kernel
theorem dX4_cut_55 : decode cX4_cut 55 = .ok (.ireturn, 1) := by decide +kernel
theorem dX4_dip_0 : decode cX4_dip 0 = .ok (.iload_n 1, 1) := by decide +kernel
theorem dX4_dip_1 : decode cX4_dip 1 = .ok (.iconst 0, 1) := by decide +kernel
theorem dX4_dip_2 : decode cX4_dip 2 = .ok (.bipush 12, 2) := by decide +kernel
theorem dX4_dip_4 : decode cX4_dip 4 = .ok (.invokestatic 51, 3) := by decide +kernel
theorem dX4_dip_7 : decode cX4_dip 7 = .ok (.ifCond .ne 10, 3) := by decide +kernel
theorem dX4_dip_10 : decode cX4_dip 10 = .ok (.aload_n 0, 1) := by decide +kernel
theorem dX4_dip_11 : decode cX4_dip 11 = .ok (.bipush (-2), 2) := by decide +kernel
theorem dX4_dip_13 : decode cX4_dip 13 = .ok (.invokevirtual 55, 3) := by decide +kernel
theorem dX4_dip_16 : decode cX4_dip 16 = .ok (.ireturn, 1) := by decide +kernel
theorem dX4_dip_17 : decode cX4_dip 17 = .ok (.aload_n 0, 1) := by decide +kernel
theorem dX4_dip_18 : decode cX4_dip 18 = .ok (.getfield 10, 3) := by decide +kernel
theorem dX4_dip_21 : decode cX4_dip 21 = .ok (.getfield 81, 3) := by decide +kernel
theorem dX4_dip_24 : decode cX4_dip 24 = .ok (.istore_n 2, 1) := by decide +kernel
theorem dX4_dip_25 : decode cX4_dip 25 = .ok (.aload_n 0, 1) := by decide +kernel
theorem dX4_dip_26 : decode cX4_dip 26 = .ok (.getfield 10, 3) := by decide +kernel
theorem dX4_dip_29 : decode cX4_dip 29 = .ok (.invokevirtual 84, 3) := by decide +kernel
theorem dX4_dip_32 : decode cX4_dip 32 = .ok (.aload_n 0, 1) := by decide +kernel
theorem dX4_dip_33 : decode cX4_dip 33 = .ok (.getfield 10, 3) := by decide +kernel
theorem dX4_dip_36 : decode cX4_dip 36 = .ok (.iload_n 1, 1) := by decide +kernel
theorem dX4_dip_37 : decode cX4_dip 37 = .ok (.putfield 81, 3) := by decide +kernel
theorem dX4_dip_40 : decode cX4_dip 40 = .ok (.iload_n 2, 1) := by decide +kernel
theorem dX4_dip_41 : decode cX4_dip 41 = .ok (.ireturn, 1) := by decide +kernel
theorem dX4_print_0 : decode cX4_print 0 = .ok (.iload_n 1, 1) := by decide +kernel
theorem dX4_print_1 : decode cX4_print 1 = .ok (.iload_n 2, 1) := by decide +kernel
theorem dX4_print_2 : decode cX4_print 2 = .ok (.iload_n 3, 1) := by decide +kernel
theorem dX4_print_3 : decode cX4_print 3 = .ok (.iload 4, 2) := by decide +kernel
theorem dX4_print_5 : decode cX4_print 5 = .ok (.iload 5, 2) := by decide +kernel
theorem dX4_print_7 : decode cX4_print 7 = .ok (.invokestatic 87, 3) := by decide +kernel
theorem dX4_print_10 : decode cX4_print 10 = .ok (.ifCond .ne 10, 3) := by decide +kernel
theorem dX4_print_13 : decode cX4_print 13 = .ok (.aload_n 0, 1) := by decide +kernel
theorem dX4_print_14 : decode cX4_print 14 = .ok (.bipush (-2), 2) := by decide +kernel
theorem dX4_print_16 : decode cX4_print 16 = .ok (.invokevirtual 55, 3) := by decide +kernel
theorem dX4_print_19 : decode cX4_print 19 = .ok (.ireturn, 1) := by decide +kernel
theorem dX4_print_20 : decode cX4_print 20 = .ok (.aload_n 0, 1) := by decide +kernel
theorem dX4_print_21 : decode cX4_print 21 = .ok (.getfield 10, 3) := by decide +kernel
theorem dX4_print_24 : decode cX4_print 24 = .ok (.getfield 81, 3) := by decide +kernel
theorem dX4_print_27 : decode cX4_print 27 = .ok (.ifCond .ne 8, 3) := by decide +kernel
theorem dX4_print_30 : decode cX4_print 30 = .ok (.aload_n 0, 1) := by decide +kernel
theorem dX4_print_31 : decode cX4_print 31 = .ok (.invokevirtual 91, 3) := by decide +kernel
theorem dX4_print_34 : decode cX4_print 34 = .ok (.ireturn, 1) := by decide +kernel
theorem dX4_print_35 : decode cX4_print 35 = .ok (.aload_n 0, 1) := by decide +kernel
theorem dX4_print_36 : decode cX4_print 36 = .ok (.getfield 10, 3) := by decide +kernel
theorem dX4_print_39 : decode cX4_print 39 = .ok (.invokevirtual 84, 3) := by decide +kernel
theorem dX4_print_42 : decode cX4_print 42 = .ok (.aload_n 0, 1) := by decide +kernel
theorem dX4_print_43 : decode cX4_print 43 = .ok (.getfield 10, 3) := by decide +kernel
theorem dX4_print_46 : decode cX4_print 46 = .ok (.iload_n 1, 1) := by decide +kernel
theorem dX4_print_47 : decode cX4_print 47 = .ok (.iload_n 2, 1) := by decide +kernel
theorem dX4_print_48 : decode cX4_print 48 = .ok (.iload_n 3, 1) := by decide +kernel
theorem dX4_print_49 : decode cX4_print 49 = .ok (.iload 4, 2) := by decide +kernel
theorem dX4_print_51 : decode cX4_print 51 = .ok (.iload 5, 2) := by decide +kernel
theorem dX4_print_53 : decode cX4_print 53 = .ok (.invokevirtual 95, 3) := by decide +kernel
theorem dX4_print_56 : decode cX4_print 56 = .ok (.ireturn, 1) := by decide +kernel
theorem dX4_undo_0 : decode cX4_undo 0 = .ok (.aload_n 0, 1) := by decide +kernel
theorem dX4_undo_1 : decode cX4_undo 1 = .ok (.getfield 10, 3) := by decide +kernel
theorem dX4_undo_4 : decode cX4_undo 4 = .ok (.getfield 78, 3) := by decide +kernel
theorem dX4_undo_7 : decode cX4_undo 7 = .ok (.ifCond .ne 8, 3) := by decide +kernel
theorem dX4_undo_10 : decode cX4_undo 10 = .ok (.aload_n 0, 1) := by decide +kernel
theorem dX4_undo_11 : decode cX4_undo 11 = .ok (.invokevirtual 91, 3) := by decide +kernel
theorem dX4_undo_14 : decode cX4_undo 14 = .ok (.ireturn, 1) := by decide +kernel
theorem dX4_undo_15 : decode cX4_undo 15 = .ok (.aload_n 0, 1) := by decide +kernel
theorem dX4_undo_16 : decode cX4_undo 16 = .ok (.getfield 10, 3) := by decide +kernel
theorem dX4_undo_19 : decode cX4_undo 19 = .ok (.invokevirtual 99, 3) := by decide +kernel
theorem dX4_undo_22 : decode cX4_undo 22 = .ok (.aload_n 0, 1) := by decide +kernel
theorem dX4_undo_23 : decode cX4_undo 23 = .ok (.getfield 10, 3) := by decide +kernel
theorem dX4_undo_26 : decode cX4_undo 26 = .ok (.getfield 81, 3) := by decide +kernel
theorem dX4_undo_29 : decode cX4_undo 29 = .ok (.ireturn, 1) := by decide +kernel
theorem dX4_type_0 : decode cX4_type 0 = .ok (.iload_n 1, 1) := by decide +kernel
theorem dX4_type_1 : decode cX4_type 1 = .ok (.iconst 0, 1) := by decide +kernel
theorem dX4_type_2 : decode cX4_type 2 = .ok (.bipush 127, 2) := by decide +kernel
theorem dX4_type_4 : decode cX4_type 4 = .ok (.invokestatic 51, 3) := by decide +kernel
theorem dX4_type_7 : decode cX4_type 7 = .ok (.ifCond .ne 10, 3) := by decide +kernel
theorem dX4_type_10 : decode cX4_type 10 = .ok (.aload_n 0, 1) := by decide +kernel
theorem dX4_type_11 : decode cX4_type 11 = .ok (.bipush (-2), 2) := by decide +kernel
theorem dX4_type_13 : decode cX4_type 13 = .ok (.invokevirtual 55, 3) := by decide +kernel
theorem dX4_type_16 : decode cX4_type 16 = .ok (.ireturn, 1) := by decide +kernel
theorem dX4_type_17 : decode cX4_type 17 = .ok (.aload_n 0, 1) := by decide +kernel
theorem dX4_type_18 : decode cX4_type 18 = .ok (.getfield 26, 3) := by decide +kernel
theorem dX4_type_21 : decode cX4_type 21 = .ok (.getfield 102, 3) := by decide +kernel
theorem dX4_type_24 : decode cX4_type 24 = .ok (.sipush 150, 3) := by decide +kernel
theorem dX4_type_27 : decode cX4_type 27 = .ok (.if_icmp .lt 8, 3) := by decide +kernel
theorem dX4_type_30 : decode cX4_type 30 = .ok (.aload_n 0, 1) := by decide +kernel
theorem dX4_type_31 : decode cX4_type 31 = .ok (.invokevirtual 105, 3) := by decide +kernel
theorem dX4_type_34 : decode cX4_type 34 = .ok (.ireturn, 1) := by decide +kernel
theorem dX4_type_35 : decode cX4_type 35 = .ok (.aload_n 0, 1) := by decide +kernel
theorem dX4_type_36 : decode cX4_type 36 = .ok (.getfield 26, 3) := by decide +kernel
theorem dX4_type_39 : decode cX4_type 39 = .ok (.iload_n 1, 1) := by decide +kernel
theorem dX4_type_40 : decode cX4_type 40 = .ok (.invokevirtual 108, 3) := by decide +kernel
theorem dX4_type_43 : decode cX4_type 43 = .ok (.aload_n 0, 1) := by decide +kernel
theorem dX4_type_44 : decode cX4_type 44 = .ok (.getfield 26, 3) := by decide +kernel
theorem dX4_type_47 : decode cX4_type 47 = .ok (.getfield 102, 3) := by decide +kernel
theorem dX4_type_50 : decode cX4_type 50 = .ok (.ireturn, 1) := by decide +kernel
theorem dX4_clear_0 : decode cX4_clear 0 = .ok (.aload_n 0, 1) := by decide +kernel
theorem dX4_clear_1 : decode cX4_clear 1 = .ok (.getfield 26, 3) := by decide +kernel
theorem dX4_clear_4 : decode cX4_clear 4 = .ok (.getfield 102, 3) := by decide +kernel
theorem dX4_clear_7 : decode cX4_clear 7 = .ok (.istore_n 1, 1) := by decide +kernel
theorem dX4_clear_8 : decode cX4_clear 8 = .ok (.aload_n 0, 1) := by decide +kernel
theorem dX4_clear_9 : decode cX4_clear 9 = .ok (.getfield 26, 3) := by decide +kernel
theorem dX4_clear_12 : decode cX4_clear 12 = .ok (.iconst 0, 1) := by decide +kernel
theorem dX4_clear_13 : decode cX4_clear 13 = .ok (.putfield 102, 3) := by decide +kernel
theorem dX4_clear_16 : decode cX4_clear 16 = .ok (.iload_n 1, 1) := by decide +kernel
theorem dX4_clear_17 : decode cX4_clear 17 = .ok (.ireturn, 1) := by decide +kernel
theorem dX4_read_0 : decode cX4_read 0 = .ok (.aload_n 0, 1) := by decide +kernel
theorem dX4_read_1 : decode cX4_read 1 = .ok (.getfield 26, 3) := by decide +kernel
theorem dX4_read_4 : decode cX4_read 4 = .ok (.aload_n 0, 1) := by decide +kernel
theorem dX4_read_5 : decode cX4_read 5 = .ok (.getfield 16, 3) := by decide +kernel
theorem dX4_read_8 : decode cX4_read 8 = .ok (.invokevirtual 111, 3) := by decide +kernel
theorem dX4_read_11 : decode cX4_read 11 = .ok (.istore_n 1, 1) := by decide +kernel
theorem dX4_read_12 : decode cX4_read 12 = .ok (.iload_n 1, 1) := by decide +kernel
theorem dX4_read_13 : decode cX4_read 13 = .ok (.ifCond .ge 5, 3) := by decide +kernel
theorem dX4_read_16 : decode cX4_read 16 = .ok (.iload_n 1, 1) := by decide +kernel
theorem dX4_read_17 : decode cX4_read 17 = .ok (.ireturn, 1) := by decide +kernel
theorem dX4_read_18 : decode cX4_read 18 = .ok (.aload_n 0, 1) := by decide +kernel
theorem dX4_read_19 : decode cX4_read 19 = .ok (.getfield 10, 3) := by decide +kernel
theorem dX4_read_22 : decode cX4_read 22 = .ok (.aload_n 0, 1) := by decide +kernel
theorem dX4_read_23 : decode cX4_read 23 = .ok (.getfield 16, 3) := by decide +kernel
theorem dX4_read_26 : decode cX4_read 26 = .ok (.invokevirtual 115, 3) := by decide +kernel
theorem dX4_read_29 : decode cX4_read 29 = .ok (.iload_n 1, 1) := by decide +kernel
theorem dX4_read_30 : decode cX4_read 30 = .ok (.ireturn, 1) := by decide +kernel
theorem dX4_dark_0 : decode cX4_dark 0 = .ok (.iload_n 1, 1) := by decide +kernel
theorem dX4_dark_1 : decode cX4_dark 1 = .ok (.iload_n 2, 1) := by decide +kernel
theorem dX4_dark_2 : decode cX4_dark 2 = .ok (.invokestatic 119, 3) := by decide +kernel
theorem dX4_dark_5 : decode cX4_dark 5 = .ok (.ifCond .ne 10, 3) := by decide +kernel
theorem dX4_dark_8 : decode cX4_dark 8 = .ok (.aload_n 0, 1) := by decide +kernel
theorem dX4_dark_9 : decode cX4_dark 9 = .ok (.bipush (-2), 2) := by decide +kernel
theorem dX4_dark_11 : decode cX4_dark 11 = .ok (.invokevirtual 55, 3) := by decide +kernel
theorem dX4_dark_14 : decode cX4_dark 14 = .ok (.ireturn, 1) := by decide +kernel
theorem dX4_dark_15 : decode cX4_dark 15 = .ok (.aload_n 0, 1) := by decide +kernel
theorem dX4_dark_16 : decode cX4_dark 16 = .ok (.getfield 10, 3) := by decide +kernel
theorem dX4_dark_19 : decode cX4_dark 19 = .ok (.getfield 123, 3) := by decide +kernel
theorem dX4_dark_22 : decode cX4_dark 22 = .ok (.bipush 8, 2) := by decide +kernel
theorem dX4_dark_24 : decode cX4_dark 24 = .ok (.iload_n 2, 1) := by decide +kernel
theorem dX4_dark_25 : decode cX4_dark 25 = .ok (.imul, 1) := by decide +kernel
theorem dX4_dark_26 : decode cX4_dark 26 = .ok (.iload_n 1, 1) := by decide +kernel
theorem dX4_dark_27 : decode cX4_dark 27 = .ok (.iadd, 1) := by decide +kernel
theorem dX4_dark_28 : decode cX4_dark 28 = .ok (.iaload, 1) := by decide +kernel
theorem dX4_dark_29 : decode cX4_dark 29 = .ok (.ireturn, 1) := by decide +kernel
theorem dX4_looks_0 : decode cX4_looks 0 = .ok (.iload_n 1, 1) := by decide +kernel
theorem dX4_looks_1 : decode cX4_looks 1 = .ok (.iconst 0, 1) := by decide +kernel
theorem dX4_looks_2 : decode cX4_looks 2 = .ok (.iconst 1, 1) := by decide +kernel
theorem dX4_looks_3 : decode cX4_looks 3 = .ok (.invokestatic 51, 3) := by decide +kernel
theorem dX4_looks_6 : decode cX4_looks 6 = .ok (.ifCond .eq 12, 3) := by decide +kernel
theorem dX4_looks_9 : decode cX4_looks 9 = .ok (.iload_n 2, 1) := by decide +kernel
theorem dX4_looks_10 : decode cX4_looks 10 = .ok (.iconst 0, 1) := by decide +kernel
theorem dX4_looks_11 : decode cX4_looks 11 = .ok (.iconst 3, 1) := by decide +kernel
theorem dX4_looks_12 : decode cX4_looks 12 = .ok (.invokestatic 51, 3) := by decide +kernel
theorem dX4_looks_15 : decode cX4_looks 15 = .ok (.ifCond .ne 10, 3) := by decide +kernel
theorem dX4_looks_18 : decode cX4_looks 18 = .ok (.aload_n 0, 1) := by decide +kernel
theorem dX4_looks_19 : decode cX4_looks 19 = .ok (.bipush (-2), 2) := by decide +kernel
theorem dX4_looks_21 : decode cX4_looks 21 = .ok (.invokevirtual 55, 3) := by decide +kernel
theorem dX4_looks_24 : decode cX4_looks 24 = .ok (.ireturn, 1) := by decide +kernel
theorem dX4_looks_25 : decode cX4_looks 25 = .ok (.aload_n 0, 1) := by decide +kernel
theorem dX4_looks_26 : decode cX4_looks 26 = .ok (.getfield 10, 3) := by decide +kernel
theorem dX4_looks_29 : decode cX4_looks 29 = .ok (.getfield 74, 3) := by decide +kernel
theorem dX4_looks_32 : decode cX4_looks 32 = .ok (.iload_n 1, 1) := by decide +kernel
theorem dX4_looks_33 : decode cX4_looks 33 = .ok (.iaload, 1) := by decide +kernel
theorem dX4_looks_34 : decode cX4_looks 34 = .ok (.iload_n 2, 1) := by decide +kernel
theorem dX4_looks_35 : decode cX4_looks 35 = .ok (.invokestatic 126, 3) := by decide +kernel
theorem dX4_looks_38 : decode cX4_looks 38 = .ok (.ireturn, 1) := by decide +kernel
theorem dX4_alike_0 : decode cX4_alike 0 = .ok (.iload_n 1, 1) := by decide +kernel
theorem dX4_alike_1 : decode cX4_alike 1 = .ok (.iconst 0, 1) := by decide +kernel
theorem dX4_alike_2 : decode cX4_alike 2 = .ok (.iconst 1, 1) := by decide +kernel
theorem dX4_alike_3 : decode cX4_alike 3 = .ok (.invokestatic 51, 3) := by decide +kernel
theorem dX4_alike_6 : decode cX4_alike 6 = .ok (.ifCond .ne 10, 3) := by decide +kernel
theorem dX4_alike_9 : decode cX4_alike 9 = .ok (.aload_n 0, 1) := by decide +kernel
theorem dX4_alike_10 : decode cX4_alike 10 = .ok (.bipush (-2), 2) := by decide +kernel
theorem dX4_alike_12 : decode cX4_alike 12 = .ok (.invokevirtual 55, 3) := by decide +kernel
theorem dX4_alike_15 : decode cX4_alike 15 = .ok (.ireturn, 1) := by decide +kernel
theorem dX4_alike_16 : decode cX4_alike 16 = .ok (.aload_n 0, 1) := by decide +kernel
theorem dX4_alike_17 : decode cX4_alike 17 = .ok (.getfield 10, 3) := by decide +kernel
theorem dX4_alike_20 : decode cX4_alike 20 = .ok (.getfield 74, 3) := by decide +kernel
theorem dX4_alike_23 : decode cX4_alike 23 = .ok (.iload_n 1, 1) := by decide +kernel
theorem dX4_alike_24 : decode cX4_alike 24 = .ok (.iaload, 1) := by decide +kernel
theorem dX4_alike_25 : decode cX4_alike 25 = .ok (.iconst 0, 1) := by decide +kernel
theorem dX4_alike_26 : decode cX4_alike 26 = .ok (.invokestatic 126, 3) := by decide +kernel
theorem dX4_alike_29 : decode cX4_alike 29 = .ok (.istore_n 2, 1) := by decide +kernel
theorem dX4_alike_30 : decode cX4_alike 30 = .ok (.iconst 0, 1) := by decide +kernel
theorem dX4_alike_31 : decode cX4_alike 31 = .ok (.istore_n 3, 1) := by decide +kernel
theorem dX4_alike_32 : decode cX4_alike 32 = .ok (.iconst 0, 1) := by decide +kernel
theorem dX4_alike_33 : decode cX4_alike 33 = .ok (.istore 4, 2) := by decide +kernel
theorem dX4_alike_35 : decode cX4_alike 35 = .ok (.iload 4, 2) := by decide +kernel
theorem dX4_alike_37 : decode cX4_alike 37 = .ok (.iconst 3, 1) := by decide +kernel
theorem dX4_alike_38 : decode cX4_alike 38 = .ok (.if_icmp .gt 34, 3) := by decide +kernel
theorem dX4_alike_41 : decode cX4_alike 41 = .ok (.aload_n 0, 1) := by decide +kernel
theorem dX4_alike_42 : decode cX4_alike 42 = .ok (.getfield 10, 3) := by decide +kernel
theorem dX4_alike_45 : decode cX4_alike 45 = .ok (.getfield 74, 3) := by decide +kernel
theorem dX4_alike_48 : decode cX4_alike 48 = .ok (.iload_n 1, 1) := by decide +kernel
theorem dX4_alike_49 : decode cX4_alike 49 = .ok (.iaload, 1) := by decide +kernel
theorem dX4_alike_50 : decode cX4_alike 50 = .ok (.iload 4, 2) := by decide +kernel
theorem dX4_alike_52 : decode cX4_alike 52 = .ok (.invokestatic 126, 3) := by decide +kernel
theorem dX4_alike_55 : decode cX4_alike 55 = .ok (.iload_n 2, 1) := by decide +kernel
theorem dX4_alike_56 : decode cX4_alike 56 = .ok (.if_icmp .ne 10, 3) := by decide +kernel
theorem dX4_alike_59 : decode cX4_alike 59 = .ok (.iload_n 3, 1) := by decide +kernel
theorem dX4_alike_60 : decode cX4_alike 60 = .ok (.iconst 1, 1) := by decide +kernel
theorem dX4_alike_61 : decode cX4_alike 61 = .ok (.iload 4, 2) := by decide +kernel
theorem dX4_alike_63 : decode cX4_alike 63 = .ok (.ishl, 1) := by decide +kernel
theorem dX4_alike_64 : decode cX4_alike 64 = .ok (.ior, 1) := by decide +kernel
theorem dX4_alike_65 : decode cX4_alike 65 = .ok (.istore_n 3, 1) := by decide +kernel
theorem dX4_alike_66 : decode cX4_alike 66 = .ok (.iinc 4 1, 3) := by decide +kernel
theorem dX4_alike_69 : decode cX4_alike 69 = .ok (.goto (-34), 3) := by decide +kernel
theorem dX4_alike_72 : decode cX4_alike 72 = .ok (.iload_n 3, 1) := by decide +kernel
theorem dX4_alike_73 : decode cX4_alike 73 = .ok (.ireturn, 1) := by decide +kernel
theorem dX4_adds_0 : decode cX4_adds 0 = .ok (.iload_n 1, 1) := by decide +kernel
theorem dX4_adds_1 : decode cX4_adds 1 = .ok (.iload_n 2, 1) := by decide +kernel
theorem dX4_adds_2 : decode cX4_adds 2 = .ok (.iload_n 3, 1) := by decide +kernel
theorem dX4_adds_3 : decode cX4_adds 3 = .ok (.iload 4, 2) := by decide +kernel
theorem dX4_adds_5 : decode cX4_adds 5 = .ok (.iload 5, 2) := by decide +kernel
theorem dX4_adds_7 : decode cX4_adds 7 = .ok (.invokestatic 87, 3) := by decide +kernel
theorem dX4_adds_10 : decode cX4_adds 10 = .ok (.ifCond .ne 10, 3) := by decide +kernel
theorem dX4_adds_13 : decode cX4_adds 13 = .ok (.aload_n 0, 1) := by decide +kernel
theorem dX4_adds_14 : decode cX4_adds 14 = .ok (.bipush (-2), 2) := by decide +kernel
theorem dX4_adds_16 : decode cX4_adds 16 = .ok (.invokevirtual 55, 3) := by decide +kernel
theorem dX4_adds_19 : decode cX4_adds 19 = .ok (.ireturn, 1) := by decide +kernel
theorem dX4_adds_20 : decode cX4_adds 20 = .ok (.aload_n 0, 1) := by decide +kernel
theorem dX4_adds_21 : decode cX4_adds 21 = .ok (.getfield 10, 3) := by decide +kernel
theorem dX4_adds_24 : decode cX4_adds 24 = .ok (.getfield 81, 3) := by decide +kernel
theorem dX4_adds_27 : decode cX4_adds 27 = .ok (.ifCond .ne 8, 3) := by decide +kernel
theorem dX4_adds_30 : decode cX4_adds 30 = .ok (.aload_n 0, 1) := by decide +kernel
theorem dX4_adds_31 : decode cX4_adds 31 = .ok (.invokevirtual 91, 3) := by decide +kernel
theorem dX4_adds_34 : decode cX4_adds 34 = .ok (.ireturn, 1) := by decide +kernel
theorem dX4_adds_35 : decode cX4_adds 35 = .ok (.aload_n 0, 1) := by decide +kernel
theorem dX4_adds_36 : decode cX4_adds 36 = .ok (.getfield 16, 3) := by decide +kernel
theorem dX4_adds_39 : decode cX4_adds 39 = .ok (.aload_n 0, 1) := by decide +kernel
theorem dX4_adds_40 : decode cX4_adds 40 = .ok (.getfield 10, 3) := by decide +kernel
theorem dX4_adds_43 : decode cX4_adds 43 = .ok (.invokevirtual 132, 3) := by decide +kernel
theorem dX4_adds_46 : decode cX4_adds 46 = .ok (.aload_n 0, 1) := by decide +kernel
theorem dX4_adds_47 : decode cX4_adds 47 = .ok (.getfield 16, 3) := by decide +kernel
theorem dX4_adds_50 : decode cX4_adds 50 = .ok (.iload_n 1, 1) := by decide +kernel
theorem dX4_adds_51 : decode cX4_adds 51 = .ok (.iload_n 2, 1) := by decide +kernel
theorem dX4_adds_52 : decode cX4_adds 52 = .ok (.iload_n 3, 1) := by decide +kernel
theorem dX4_adds_53 : decode cX4_adds 53 = .ok (.iload 4, 2) := by decide +kernel
theorem dX4_adds_55 : decode cX4_adds 55 = .ok (.iload 5, 2) := by decide +kernel
theorem dX4_adds_57 : decode cX4_adds 57 = .ok (.invokevirtual 95, 3) := by decide +kernel
theorem dX4_adds_60 : decode cX4_adds 60 = .ok (.ireturn, 1) := by decide +kernel
theorem dX4_force_0 : decode cX4_force 0 = .ok (.iload_n 1, 1) := by decide +kernel
theorem dX4_force_1 : decode cX4_force 1 = .ok (.iload_n 2, 1) := by decide +kernel
theorem dX4_force_2 : decode cX4_force 2 = .ok (.invokestatic 135, 3) := by decide +kernel
theorem dX4_force_5 : decode cX4_force 5 = .ok (.ifCond .eq 12, 3) := by decide +kernel
theorem dX4_force_8 : decode cX4_force 8 = .ok (.iload_n 3, 1) := by decide +kernel
theorem dX4_force_9 : decode cX4_force 9 = .ok (.iconst 0, 1) := by decide +kernel
theorem dX4_force_10 : decode cX4_force 10 = .ok (.iconst 1, 1) := by decide +kernel
theorem dX4_force_11 : decode cX4_force 11 = .ok (.invokestatic 51, 3) := by decide +kernel
theorem dX4_force_14 : decode cX4_force 14 = .ok (.ifCond .ne 10, 3) := by decide +kernel
theorem dX4_force_17 : decode cX4_force 17 = .ok (.aload_n 0, 1) := by decide +kernel
theorem dX4_force_18 : decode cX4_force 18 = .ok (.bipush (-2), 2) := by decide +kernel
theorem dX4_force_20 : decode cX4_force 20 = .ok (.invokevirtual 55, 3) := by decide +kernel
theorem dX4_force_23 : decode cX4_force 23 = .ok (.ireturn, 1) := by decide +kernel
theorem dX4_force_24 : decode cX4_force 24 = .ok (.iload_n 3, 1) := by decide +kernel
theorem dX4_force_25 : decode cX4_force 25 = .ok (.ifCond .ne 11, 3) := by decide +kernel
theorem dX4_force_28 : decode cX4_force 28 = .ok (.iload_n 1, 1) := by decide +kernel
theorem dX4_force_29 : decode cX4_force 29 = .ok (.iload_n 2, 1) := by decide +kernel
theorem dX4_force_30 : decode cX4_force 30 = .ok (.invokestatic 138, 3) := by decide +kernel
theorem dX4_force_33 : decode cX4_force 33 = .ok (.goto 8, 3) := by decide +kernel
theorem dX4_force_36 : decode cX4_force 36 = .ok (.iload_n 1, 1) := by decide +kernel
theorem dX4_force_37 : decode cX4_force 37 = .ok (.iload_n 2, 1) := by decide +kernel
theorem dX4_force_38 : decode cX4_force 38 = .ok (.invokestatic 143, 3) := by decide +kernel
theorem dX4_force_41 : decode cX4_force 41 = .ok (.ireturn, 1) := by decide +kernel
theorem dX4_fromOne_0 : decode cX4_fromOne 0 = .ok (.iload_n 1, 1) := by decide +kernel
theorem dX4_fromOne_1 : decode cX4_fromOne 1 = .ok (.iload_n 2, 1) := by decide +kernel
theorem dX4_fromOne_2 : decode cX4_fromOne 2 = .ok (.invokestatic 135, 3) := by decide +kernel
theorem dX4_fromOne_5 : decode cX4_fromOne 5 = .ok (.ifCond .eq 13, 3) := by decide +kernel
theorem dX4_fromOne_8 : decode cX4_fromOne 8 = .ok (.iload_n 3, 1) := by decide +kernel
theorem dX4_fromOne_9 : decode cX4_fromOne 9 = .ok (.iconst 1, 1) := by decide +kernel
theorem dX4_fromOne_10 : decode cX4_fromOne 10 = .ok (.bipush 9, 2) := by decide +kernel
theorem dX4_fromOne_12 : decode cX4_fromOne 12 = .ok (.invokestatic 51, 3) := by decide +kernel
theorem dX4_fromOne_15 : decode cX4_fromOne 15 = .ok (.ifCond .ne 10, 3) := by decide +kernel
theorem dX4_fromOne_18 : decode cX4_fromOne 18 = .ok (.aload_n 0, 1) := by decide +kernel
theorem dX4_fromOne_19 : decode cX4_fromOne 19 = .ok (.bipush (-2), 2) := by decide +kernel
theorem dX4_fromOne_21 : decode cX4_fromOne 21 = .ok (.invokevirtual 55, 3) := by decide +kernel
theorem dX4_fromOne_24 : decode cX4_fromOne 24 = .ok (.ireturn, 1) := by decide +kernel
