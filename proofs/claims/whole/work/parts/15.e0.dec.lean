theorem dX12_in_0 : decode cX12_in 0 = .ok (.lload_n 0, 1) := by decide +kernel
theorem dX12_in_1 : decode cX12_in 1 = .ok (.lload_n 2, 1) := by decide +kernel
theorem dX12_in_2 : decode cX12_in 2 = .ok (.lcmp, 1) := by decide +kernel
theorem dX12_in_3 : decode cX12_in 3 = .ok (.ifCond .lt 14, 3) := by decide +kernel
theorem dX12_in_6 : decode cX12_in 6 = .ok (.lload_n 0, 1) := by decide +kernel
theorem dX12_in_7 : decode cX12_in 7 = .ok (.lload 4, 2) := by decide +kernel
theorem dX12_in_9 : decode cX12_in 9 = .ok (.lcmp, 1) := by decide +kernel
theorem dX12_in_10 : decode cX12_in 10 = .ok (.ifCond .gt 7, 3) := by decide +kernel
theorem dX12_in_13 : decode cX12_in 13 = .ok (.iconst 1, 1) := by decide +kernel
theorem dX12_in_14 : decode cX12_in 14 = .ok (.goto 4, 3) := by decide +kernel
theorem dX12_in_17 : decode cX12_in 17 = .ok (.iconst 0, 1) := by decide +kernel
theorem dX12_in_18 : decode cX12_in 18 = .ok (.ireturn, 1) := by decide +kernel
theorem dX12_has_0 : decode cX12_has 0 = .ok (.iload_n 0, 1) := by decide +kernel
theorem dX12_has_1 : decode cX12_has 1 = .ok (.iload_n 1, 1) := by decide +kernel
theorem dX12_has_2 : decode cX12_has 2 = .ok (.ishr, 1) := by decide +kernel
theorem dX12_has_3 : decode cX12_has 3 = .ok (.iconst 1, 1) := by decide +kernel
theorem dX12_has_4 : decode cX12_has 4 = .ok (.iand, 1) := by decide +kernel
theorem dX12_has_5 : decode cX12_has 5 = .ok (.iconst 1, 1) := by decide +kernel
theorem dX12_has_6 : decode cX12_has 6 = .ok (.if_icmp .ne 7, 3) := by decide +kernel
theorem dX12_has_9 : decode cX12_has 9 = .ok (.iconst 1, 1) := by decide +kernel
theorem dX12_has_10 : decode cX12_has 10 = .ok (.goto 4, 3) := by decide +kernel
theorem dX12_has_13 : decode cX12_has 13 = .ok (.iconst 0, 1) := by decide +kernel
theorem dX12_has_14 : decode cX12_has 14 = .ok (.ireturn, 1) := by decide +kernel
theorem dX12_bits_0 : decode cX12_bits 0 = .ok (.iconst 0, 1) := by decide +kernel
theorem dX12_bits_1 : decode cX12_bits 1 = .ok (.istore_n 1, 1) := by decide +kernel
theorem dX12_bits_2 : decode cX12_bits 2 = .ok (.iconst 0, 1) := by decide +kernel
theorem dX12_bits_3 : decode cX12_bits 3 = .ok (.istore_n 2, 1) := by decide +kernel
theorem dX12_bits_4 : decode cX12_bits 4 = .ok (.iload_n 2, 1) := by decide +kernel
theorem dX12_bits_5 : decode cX12_bits 5 = .ok (.bipush 6, 2) := by decide +kernel
theorem dX12_bits_7 : decode cX12_bits 7 = .ok (.if_icmp .ge 17, 3) := by decide +kernel
theorem dX12_bits_10 : decode cX12_bits 10 = .ok (.iload_n 1, 1) := by decide +kernel
theorem dX12_bits_11 : decode cX12_bits 11 = .ok (.iload_n 0, 1) := by decide +kernel
theorem dX12_bits_12 : decode cX12_bits 12 = .ok (.iload_n 2, 1) := by decide +kernel
theorem dX12_bits_13 : decode cX12_bits 13 = .ok (.ishr, 1) := by decide +kernel
theorem dX12_bits_14 : decode cX12_bits 14 = .ok (.iconst 1, 1) := by decide +kernel
theorem dX12_bits_15 : decode cX12_bits 15 = .ok (.iand, 1) := by decide +kernel
theorem dX12_bits_16 : decode cX12_bits 16 = .ok (.iadd, 1) := by decide +kernel
theorem dX12_bits_17 : decode cX12_bits 17 = .ok (.istore_n 1, 1) := by decide +kernel
theorem dX12_bits_18 : decode cX12_bits 18 = .ok (.iinc 2 1, 3) := by decide +kernel
theorem dX12_bits_21 : decode cX12_bits 21 = .ok (.goto (-17), 3) := by decide +kernel
theorem dX12_bits_24 : decode cX12_bits 24 = .ok (.iload_n 1, 1) := by decide +kernel
theorem dX12_bits_25 : decode cX12_bits 25 = .ok (.ireturn, 1) := by decide +kernel
theorem dX12_larger_0 : decode cX12_larger 0 = .ok (.iload_n 0, 1) := by decide +kernel
theorem dX12_larger_1 : decode cX12_larger 1 = .ok (.iload_n 1, 1) := by decide +kernel
theorem dX12_larger_2 : decode cX12_larger 2 = .ok (.if_icmp .ge 7, 3) := by decide +kernel
theorem dX12_larger_5 : decode cX12_larger 5 = .ok (.iload_n 1, 1) := by decide +kernel
theorem dX12_larger_6 : decode cX12_larger 6 = .ok (.goto 4, 3) := by decide +kernel
theorem dX12_larger_9 : decode cX12_larger 9 = .ok (.iload_n 0, 1) := by decide +kernel
theorem dX12_larger_10 : decode cX12_larger 10 = .ok (.ireturn, 1) := by decide +kernel
theorem dX12_finds_0 : decode cX12_finds 0 = .ok (.aload_n 0, 1) := by decide +kernel
theorem dX12_finds_1 : decode cX12_finds 1 = .ok (.iload_n 1, 1) := by decide +kernel
theorem dX12_finds_2 : decode cX12_finds 2 = .ok (.putfield 53, 3) := by decide +kernel
theorem dX12_finds_5 : decode cX12_finds 5 = .ok (.ldc 57, 2) := by decide +kernel
theorem dX12_finds_7 : decode cX12_finds 7 = .ok (.iload_n 1, 1) := by decide +kernel
theorem dX12_finds_8 : decode cX12_finds 8 = .ok (.isub, 1) := by decide +kernel
theorem dX12_finds_9 : decode cX12_finds 9 = .ok (.ireturn, 1) := by decide +kernel
theorem dX12_fine_0 : decode cX12_fine 0 = .ok (.aload_n 0, 1) := by decide +kernel
theorem dX12_fine_1 : decode cX12_fine 1 = .ok (.iconst 0, 1) := by decide +kernel
theorem dX12_fine_2 : decode cX12_fine 2 = .ok (.putfield 53, 3) := by decide +kernel
theorem dX12_fine_5 : decode cX12_fine 5 = .ok (.iload_n 1, 1) := by decide +kernel
theorem dX12_fine_6 : decode cX12_fine 6 = .ok (.ireturn, 1) := by decide +kernel
theorem dX12_row_0 : decode cX12_row 0 = .ok (.iload_n 1, 1) := by decide +kernel
theorem dX12_row_1 : decode cX12_row 1 = .ok (.i2l, 1) := by decide +kernel
theorem dX12_row_2 : decode cX12_row 2 = .ok (.lconst 0, 1) := by decide +kernel
theorem dX12_row_3 : decode cX12_row 3 = .ok (.ldc2_w 58, 3) := by decide +kernel
theorem dX12_row_6 : decode cX12_row 6 = .ok (.invokestatic 60, 3) := by decide +kernel
theorem dX12_row_9 : decode cX12_row 9 = .ok (.ifCond .eq 21, 3) := by decide +kernel
theorem dX12_row_12 : decode cX12_row 12 = .ok (.iload_n 2, 1) := by decide +kernel
theorem dX12_row_13 : decode cX12_row 13 = .ok (.i2l, 1) := by decide +kernel
theorem dX12_row_14 : decode cX12_row 14 = .ok (.lconst 0, 1) := by decide +kernel
theorem dX12_row_15 : decode cX12_row 15 = .ok (.ldc2_w 64, 3) := by decide +kernel
theorem dX12_row_18 : decode cX12_row 18 = .ok (.invokestatic 60, 3) := by decide +kernel
theorem dX12_row_21 : decode cX12_row 21 = .ok (.ifCond .eq 9, 3) := by decide +kernel
theorem dX12_row_24 : decode cX12_row 24 = .ok (.iload_n 3, 1) := by decide +kernel
theorem dX12_row_25 : decode cX12_row 25 = .ok (.bipush 40, 2) := by decide +kernel
theorem dX12_row_27 : decode cX12_row 27 = .ok (.if_icmp .le 6, 3) := by decide +kernel
theorem dX12_row_30 : decode cX12_row 30 = .ok (.ldc 66, 2) := by decide +kernel
theorem dX12_row_32 : decode cX12_row 32 = .ok (.ireturn, 1) := by decide +kernel
theorem dX12_row_33 : decode cX12_row 33 = .ok (.iload_n 3, 1) := by decide +kernel
theorem dX12_row_34 : decode cX12_row 34 = .ok (.ifCond .ge 9, 3) := by decide +kernel
theorem dX12_row_37 : decode cX12_row 37 = .ok (.aload_n 0, 1) := by decide +kernel
theorem dX12_row_38 : decode cX12_row 38 = .ok (.iconst 4, 1) := by decide +kernel
theorem dX12_row_39 : decode cX12_row 39 = .ok (.invokevirtual 67, 3) := by decide +kernel
theorem dX12_row_42 : decode cX12_row 42 = .ok (.ireturn, 1) := by decide +kernel
theorem dX12_row_43 : decode cX12_row 43 = .ok (.aload_n 0, 1) := by decide +kernel
theorem dX12_row_44 : decode cX12_row 44 = .ok (.getfield 19, 3) := by decide +kernel
theorem dX12_row_47 : decode cX12_row 47 = .ok (.iload_n 1, 1) := by decide +kernel
theorem dX12_row_48 : decode cX12_row 48 = .ok (.iload_n 2, 1) := by decide +kernel
theorem dX12_row_49 : decode cX12_row 49 = .ok (.iastore, 1) := by decide +kernel
theorem dX12_row_50 : decode cX12_row 50 = .ok (.aload_n 0, 1) := by decide +kernel
theorem dX12_row_51 : decode cX12_row 51 = .ok (.getfield 22, 3) := by decide +kernel
theorem dX12_row_54 : decode cX12_row 54 = .ok (.iload_n 1, 1) := by decide +kernel
theorem dX12_row_55 : decode cX12_row 55 = .ok (.iload_n 3, 1) := by decide +kernel
theorem dX12_row_56 : decode cX12_row 56 = .ok (.iastore, 1) := by decide +kernel
theorem dX12_row_57 : decode cX12_row 57 = .ok (.iconst 0, 1) := by decide +kernel
theorem dX12_row_58 : decode cX12_row 58 = .ok (.istore 4, 2) := by decide +kernel
theorem dX12_row_60 : decode cX12_row 60 = .ok (.iload 4, 2) := by decide +kernel
theorem dX12_row_62 : decode cX12_row 62 = .ok (.iload_n 3, 1) := by decide +kernel
theorem dX12_row_63 : decode cX12_row 63 = .ok (.if_icmp .ge 22, 3) := by decide +kernel
theorem dX12_row_66 : decode cX12_row 66 = .ok (.aload_n 0, 1) := by decide +kernel
theorem dX12_row_67 : decode cX12_row 67 = .ok (.getfield 25, 3) := by decide +kernel
theorem dX12_row_70 : decode cX12_row 70 = .ok (.bipush 40, 2) := by decide +kernel
theorem dX12_row_72 : decode cX12_row 72 = .ok (.iload_n 1, 1) := by decide +kernel
theorem dX12_row_73 : decode cX12_row 73 = .ok (.imul, 1) := by decide +kernel
theorem dX12_row_74 : decode cX12_row 74 = .ok (.iload 4, 2) := by decide +kernel
theorem dX12_row_76 : decode cX12_row 76 = .ok (.iadd, 1) := by decide +kernel
theorem dX12_row_77 : decode cX12_row 77 = .ok (.iconst 0, 1) := by decide +kernel
theorem dX12_row_78 : decode cX12_row 78 = .ok (.iastore, 1) := by decide +kernel
theorem dX12_row_79 : decode cX12_row 79 = .ok (.iinc 4 1, 3) := by decide +kernel
theorem dX12_row_82 : decode cX12_row 82 = .ok (.goto (-22), 3) := by decide +kernel
theorem dX12_row_85 : decode cX12_row 85 = .ok (.aload_n 0, 1) := by decide +kernel
theorem dX12_row_86 : decode cX12_row 86 = .ok (.iload_n 3, 1) := by decide +kernel
theorem dX12_row_87 : decode cX12_row 87 = .ok (.invokevirtual 71, 3) := by decide +kernel
theorem dX12_row_90 : decode cX12_row 90 = .ok (.ireturn, 1) := by decide +kernel
theorem dX12_set_0 : decode cX12_set 0 = .ok (.iload_n 1, 1) := by decide +kernel
theorem dX12_set_1 : decode cX12_set 1 = .ok (.i2l, 1) := by decide +kernel
theorem dX12_set_2 : decode cX12_set 2 = .ok (.lconst 0, 1) := by decide +kernel
theorem dX12_set_3 : decode cX12_set 3 = .ok (.ldc2_w 58, 3) := by decide +kernel
theorem dX12_set_6 : decode cX12_set 6 = .ok (.invokestatic 60, 3) := by decide +kernel
theorem dX12_set_9 : decode cX12_set 9 = .ok (.ifCond .ne 6, 3) := by decide +kernel
theorem dX12_set_12 : decode cX12_set 12 = .ok (.ldc 66, 2) := by decide +kernel
theorem dX12_set_14 : decode cX12_set 14 = .ok (.ireturn, 1) := by decide +kernel
theorem dX12_set_15 : decode cX12_set 15 = .ok (.aload_n 0, 1) := by decide +kernel
theorem dX12_set_16 : decode cX12_set 16 = .ok (.getfield 22, 3) := by decide +kernel
theorem dX12_set_19 : decode cX12_set 19 = .ok (.iload_n 1, 1) := by decide +kernel
theorem dX12_set_20 : decode cX12_set 20 = .ok (.iaload, 1) := by decide +kernel
theorem dX12_set_21 : decode cX12_set 21 = .ok (.ifCond .ge 9, 3) := by decide +kernel
theorem dX12_set_24 : decode cX12_set 24 = .ok (.aload_n 0, 1) := by decide +kernel
theorem dX12_set_25 : decode cX12_set 25 = .ok (.iconst 1, 1) := by decide +kernel
theorem dX12_set_26 : decode cX12_set 26 = .ok (.invokevirtual 67, 3) := by decide +kernel
theorem dX12_set_29 : decode cX12_set 29 = .ok (.ireturn, 1) := by decide +kernel
theorem dX12_set_30 : decode cX12_set 30 = .ok (.iload_n 2, 1) := by decide +kernel
theorem dX12_set_31 : decode cX12_set 31 = .ok (.i2l, 1) := by decide +kernel
theorem dX12_set_32 : decode cX12_set 32 = .ok (.lconst 0, 1) := by decide +kernel
theorem dX12_set_33 : decode cX12_set 33 = .ok (.aload_n 0, 1) := by decide +kernel
theorem dX12_set_34 : decode cX12_set 34 = .ok (.getfield 22, 3) := by decide +kernel
theorem dX12_set_37 : decode cX12_set 37 = .ok (.iload_n 1, 1) := by decide +kernel
theorem dX12_set_38 : decode cX12_set 38 = .ok (.iaload, 1) := by decide +kernel
theorem dX12_set_39 : decode cX12_set 39 = .ok (.iconst 1, 1) := by decide +kernel
theorem dX12_set_40 : decode cX12_set 40 = .ok (.isub, 1) := by decide +kernel
theorem dX12_set_41 : decode cX12_set 41 = .ok (.i2l, 1) := by decide +kernel
theorem dX12_set_42 : decode cX12_set 42 = .ok (.invokestatic 60, 3) := by decide +kernel
theorem dX12_set_45 : decode cX12_set 45 = .ok (.ifCond .ne 9, 3) := by decide +kernel
theorem dX12_set_48 : decode cX12_set 48 = .ok (.aload_n 0, 1) := by decide +kernel
theorem dX12_set_49 : decode cX12_set 49 = .ok (.iconst 2, 1) := by decide +kernel
theorem dX12_set_50 : decode cX12_set 50 = .ok (.invokevirtual 67, 3) := by decide +kernel
theorem dX12_set_53 : decode cX12_set 53 = .ok (.ireturn, 1) := by decide +kernel
theorem dX12_set_54 : decode cX12_set 54 = .ok (.aload_n 0, 1) := by decide +kernel
theorem dX12_set_55 : decode cX12_set 55 = .ok (.getfield 25, 3) := by decide +kernel
theorem dX12_set_58 : decode cX12_set 58 = .ok (.bipush 40, 2) := by decide +kernel
theorem dX12_set_60 : decode cX12_set 60 = .ok (.iload_n 1, 1) := by decide +kernel
theorem dX12_set_61 : decode cX12_set 61 = .ok (.imul, 1) := by decide +kernel
theorem dX12_set_62 : decode cX12_set 62 = .ok (.iload_n 2, 1) := by decide +kernel
theorem dX12_set_63 : decode cX12_set 63 = .ok (.iadd, 1) := by decide +kernel
theorem dX12_set_64 : decode cX12_set 64 = .ok (.aload_n 0, 1) := by decide +kernel
theorem dX12_set_65 : decode cX12_set 65 = .ok (.getfield 19, 3) := by decide +kernel
theorem dX12_set_68 : decode cX12_set 68 = .ok (.iload_n 1, 1) := by decide +kernel
theorem dX12_set_69 : decode cX12_set 69 = .ok (.iaload, 1) := by decide +kernel
theorem dX12_set_70 : decode cX12_set 70 = .ok (.ifCond .ne 8, 3) := by decide +kernel
theorem dX12_set_73 : decode cX12_set 73 = .ok (.iload_n 3, 1) := by decide +kernel
theorem dX12_set_74 : decode cX12_set 74 = .ok (.i2b, 1) := by decide +kernel
theorem dX12_set_75 : decode cX12_set 75 = .ok (.goto 19, 3) := by decide +kernel
theorem dX12_set_78 : decode cX12_set 78 = .ok (.aload_n 0, 1) := by decide +kernel
theorem dX12_set_79 : decode cX12_set 79 = .ok (.getfield 19, 3) := by decide +kernel
theorem dX12_set_82 : decode cX12_set 82 = .ok (.iload_n 1, 1) := by decide +kernel
theorem dX12_set_83 : decode cX12_set 83 = .ok (.iaload, 1) := by decide +kernel
theorem dX12_set_84 : decode cX12_set 84 = .ok (.iconst 1, 1) := by decide +kernel
theorem dX12_set_85 : decode cX12_set 85 = .ok (.if_icmp .ne 8, 3) := by decide +kernel
theorem dX12_set_88 : decode cX12_set 88 = .ok (.iload_n 3, 1) := by decide +kernel
theorem dX12_set_89 : decode cX12_set 89 = .ok (.i2s, 1) := by decide +kernel
theorem dX12_set_90 : decode cX12_set 90 = .ok (.goto 4, 3) := by decide +kernel
theorem dX12_set_93 : decode cX12_set 93 = .ok (.iload_n 3, 1) := by decide +kernel
theorem dX12_set_94 : decode cX12_set 94 = .ok (.iastore, 1) := by decide +kernel
theorem dX12_set_95 : decode cX12_set 95 = .ok (.aload_n 0, 1) := by decide +kernel
theorem dX12_set_96 : decode cX12_set 96 = .ok (.aload_n 0, 1) := by decide +kernel
theorem dX12_set_97 : decode cX12_set 97 = .ok (.getfield 25, 3) := by decide +kernel
theorem dX12_set_100 : decode cX12_set 100 = .ok (.bipush 40, 2) := by decide +kernel
theorem dX12_set_102 : decode cX12_set 102 = .ok (.iload_n 1, 1) := by decide +kernel
theorem dX12_set_103 : decode cX12_set 103 = .ok (.imul, 1) := by decide +kernel
theorem dX12_set_104 : decode cX12_set 104 = .ok (.iload_n 2, 1) := by decide +kernel
theorem dX12_set_105 : decode cX12_set 105 = .ok (.iadd, 1) := by decide +kernel
theorem dX12_set_106 : decode cX12_set 106 = .ok (.iaload, 1) := by decide +kernel
theorem dX12_set_107 : decode cX12_set 107 = .ok (.invokevirtual 71, 3) := by decide +kernel
theorem dX12_set_110 : decode cX12_set 110 = .ok (.ireturn, 1) := by decide +kernel
theorem dX12_copy_0 : decode cX12_copy 0 = .ok (.iload_n 1, 1) := by decide +kernel
theorem dX12_copy_1 : decode cX12_copy 1 = .ok (.i2l, 1) := by decide +kernel
theorem dX12_copy_2 : decode cX12_copy 2 = .ok (.lconst 0, 1) := by decide +kernel
theorem dX12_copy_3 : decode cX12_copy 3 = .ok (.ldc2_w 58, 3) := by decide +kernel
theorem dX12_copy_6 : decode cX12_copy 6 = .ok (.invokestatic 60, 3) := by decide +kernel
theorem dX12_copy_9 : decode cX12_copy 9 = .ok (.ifCond .eq 15, 3) := by decide +kernel
theorem dX12_copy_12 : decode cX12_copy 12 = .ok (.iload_n 3, 1) := by decide +kernel
theorem dX12_copy_13 : decode cX12_copy 13 = .ok (.i2l, 1) := by decide +kernel
theorem dX12_copy_14 : decode cX12_copy 14 = .ok (.lconst 0, 1) := by decide +kernel
theorem dX12_copy_15 : decode cX12_copy 15 = .ok (.ldc2_w 58, 3) := by decide +kernel
theorem dX12_copy_18 : decode cX12_copy 18 = .ok (.invokestatic 60, 3) := by decide +kernel
theorem dX12_copy_21 : decode cX12_copy 21 = .ok (.ifCond .ne 6, 3) := by decide +kernel
theorem dX12_copy_24 : decode cX12_copy 24 = .ok (.ldc 66, 2) := by decide +kernel
theorem dX12_copy_26 : decode cX12_copy 26 = .ok (.ireturn, 1) := by decide +kernel
theorem dX12_copy_27 : decode cX12_copy 27 = .ok (.aload_n 0, 1) := by decide +kernel
theorem dX12_copy_28 : decode cX12_copy 28 = .ok (.getfield 22, 3) := by decide +kernel
theorem dX12_copy_31 : decode cX12_copy 31 = .ok (.iload_n 1, 1) := by decide +kernel
theorem dX12_copy_32 : decode cX12_copy 32 = .ok (.iaload, 1) := by decide +kernel
theorem dX12_copy_33 : decode cX12_copy 33 = .ok (.ifCond .lt 12, 3) := by decide +kernel
theorem dX12_copy_36 : decode cX12_copy 36 = .ok (.aload_n 0, 1) := by decide +kernel
theorem dX12_copy_37 : decode cX12_copy 37 = .ok (.getfield 22, 3) := by decide +kernel
theorem dX12_copy_40 : decode cX12_copy 40 = .ok (.iload_n 3, 1) := by decide +kernel
theorem dX12_copy_41 : decode cX12_copy 41 = .ok (.iaload, 1) := by decide +kernel
theorem dX12_copy_42 : decode cX12_copy 42 = .ok (.ifCond .ge 9, 3) := by decide +kernel
theorem dX12_copy_45 : decode cX12_copy 45 = .ok (.aload_n 0, 1) := by decide +kernel
theorem dX12_copy_46 : decode cX12_copy 46 = .ok (.iconst 1, 1) := by decide +kernel
theorem dX12_copy_47 : decode cX12_copy 47 = .ok (.invokevirtual 67, 3) := by decide +kernel
theorem dX12_copy_50 : decode cX12_copy 50 = .ok (.ireturn, 1) := by decide +kernel
theorem dX12_copy_51 : decode cX12_copy 51 = .ok (.aload_n 0, 1) := by decide +kernel
theorem dX12_copy_52 : decode cX12_copy 52 = .ok (.getfield 19, 3) := by decide +kernel
theorem dX12_copy_55 : decode cX12_copy 55 = .ok (.iload_n 1, 1) := by decide +kernel
theorem dX12_copy_56 : decode cX12_copy 56 = .ok (.iaload, 1) := by decide +kernel
theorem dX12_copy_57 : decode cX12_copy 57 = .ok (.aload_n 0, 1) := by decide +kernel
theorem dX12_copy_58 : decode cX12_copy 58 = .ok (.getfield 19, 3) := by decide +kernel
theorem dX12_copy_61 : decode cX12_copy 61 = .ok (.iload_n 3, 1) := by decide +kernel
theorem dX12_copy_62 : decode cX12_copy 62 = .ok (.iaload, 1) := by decide +kernel
theorem dX12_copy_63 : decode cX12_copy 63 = .ok (.if_icmp .eq 9, 3) := by decide +kernel
theorem dX12_copy_66 : decode cX12_copy 66 = .ok (.aload_n 0, 1) := by decide +kernel
theorem dX12_copy_67 : decode cX12_copy 67 = .ok (.iconst 5, 1) := by decide +kernel
theorem dX12_copy_68 : decode cX12_copy 68 = .ok (.invokevirtual 67, 3) := by decide +kernel
theorem dX12_copy_71 : decode cX12_copy 71 = .ok (.ireturn, 1) := by decide +kernel
theorem dX12_copy_72 : decode cX12_copy 72 = .ok (.iload_n 2, 1) := by decide +kernel
theorem dX12_copy_73 : decode cX12_copy 73 = .ok (.ifCond .lt 48, 3) := by decide +kernel
theorem dX12_copy_76 : decode cX12_copy 76 = .ok (.iload 4, 2) := by decide +kernel
theorem dX12_copy_78 : decode cX12_copy 78 = .ok (.ifCond .lt 43, 3) := by decide +kernel
theorem dX12_copy_81 : decode cX12_copy 81 = .ok (.iload 5, 2) := by decide +kernel
theorem dX12_copy_83 : decode cX12_copy 83 = .ok (.ifCond .lt 38, 3) := by decide +kernel
theorem dX12_copy_86 : decode cX12_copy 86 = .ok (.iload_n 2, 1) := by decide +kernel
theorem dX12_copy_87 : decode cX12_copy 87 = .ok (.i2l, 1) := by decide +kernel
theorem dX12_copy_88 : decode cX12_copy 88 = .ok (.iload 5, 2) := by decide +kernel
theorem dX12_copy_90 : decode cX12_copy 90 = .ok (.i2l, 1) := by decide +kernel
theorem dX12_copy_91 : decode cX12_copy 91 = .ok (.ladd, 1) := by decide +kernel
theorem dX12_copy_92 : decode cX12_copy 92 = .ok (.aload_n 0, 1) := by decide +kernel
theorem dX12_copy_93 : decode cX12_copy 93 = .ok (.getfield 22, 3) := by decide +kernel
theorem dX12_copy_96 : decode cX12_copy 96 = .ok (.iload_n 1, 1) := by decide +kernel
theorem dX12_copy_97 : decode cX12_copy 97 = .ok (.iaload, 1) := by decide +kernel
theorem dX12_copy_98 : decode cX12_copy 98 = .ok (.i2l, 1) := by decide +kernel
theorem dX12_copy_99 : decode cX12_copy 99 = .ok (.lcmp, 1) := by decide +kernel
theorem dX12_copy_100 : decode cX12_copy 100 = .ok (.ifCond .gt 21, 3) := by decide +kernel
theorem dX12_copy_103 : decode cX12_copy 103 = .ok (.iload 4, 2) := by decide +kernel
theorem dX12_copy_105 : decode cX12_copy 105 = .ok (.i2l, 1) := by decide +kernel
theorem dX12_copy_106 : decode cX12_copy 106 = .ok (.iload 5, 2) := by decide +kernel
theorem dX12_copy_108 : decode cX12_copy 108 = .ok (.i2l, 1) := by decide +kernel
theorem dX12_copy_109 : decode cX12_copy 109 = .ok (.ladd, 1) := by decide +kernel
theorem dX12_copy_110 : decode cX12_copy 110 = .ok (.aload_n 0, 1) := by decide +kernel
theorem dX12_copy_111 : decode cX12_copy 111 = .ok (.getfield 22, 3) := by decide +kernel
theorem dX12_copy_114 : decode cX12_copy 114 = .ok (.iload_n 3, 1) := by decide +kernel
theorem dX12_copy_115 : decode cX12_copy 115 = .ok (.iaload, 1) := by decide +kernel
theorem dX12_copy_116 : decode cX12_copy 116 = .ok (.i2l, 1) := by decide +kernel
theorem dX12_copy_117 : decode cX12_copy 117 = .ok (.lcmp, 1) := by decide +kernel
theorem dX12_copy_118 : decode cX12_copy 118 = .ok (.ifCond .le 9, 3) := by decide +kernel
theorem dX12_copy_121 : decode cX12_copy 121 = .ok (.aload_n 0, 1) := by decide +kernel
theorem dX12_copy_122 : decode cX12_copy 122 = .ok (.iconst 2, 1) := by decide +kernel
theorem dX12_copy_123 : decode cX12_copy 123 = .ok (.invokevirtual 67, 3) := by decide +kernel
theorem dX12_copy_126 : decode cX12_copy 126 = .ok (.ireturn, 1) := by decide +kernel
theorem dX12_copy_127 : decode cX12_copy 127 = .ok (.iconst 0, 1) := by decide +kernel
theorem dX12_copy_128 : decode cX12_copy 128 = .ok (.istore 6, 2) := by decide +kernel
theorem dX12_copy_130 : decode cX12_copy 130 = .ok (.iload 6, 2) := by decide +kernel
theorem dX12_copy_132 : decode cX12_copy 132 = .ok (.iload 5, 2) := by decide +kernel
theorem dX12_copy_134 : decode cX12_copy 134 = .ok (.if_icmp .ge 30, 3) := by decide +kernel
theorem dX12_copy_137 : decode cX12_copy 137 = .ok (.aload_n 0, 1) := by decide +kernel
theorem dX12_copy_138 : decode cX12_copy 138 = .ok (.getfield 28, 3) := by decide +kernel
theorem dX12_copy_141 : decode cX12_copy 141 = .ok (.iload 6, 2) := by decide +kernel
theorem dX12_copy_143 : decode cX12_copy 143 = .ok (.aload_n 0, 1) := by decide +kernel
theorem dX12_copy_144 : decode cX12_copy 144 = .ok (.getfield 25, 3) := by decide +kernel
theorem dX12_copy_147 : decode cX12_copy 147 = .ok (.bipush 40, 2) := by decide +kernel
theorem dX12_copy_149 : decode cX12_copy 149 = .ok (.iload_n 1, 1) := by decide +kernel
theorem dX12_copy_150 : decode cX12_copy 150 = .ok (.imul, 1) := by decide +kernel
theorem dX12_copy_151 : decode cX12_copy 151 = .ok (.iload_n 2, 1) := by decide +kernel
theorem dX12_copy_152 : decode cX12_copy 152 = .ok (.iadd, 1) := by decide +kernel
theorem dX12_copy_153 : decode cX12_copy 153 = .ok (.iload 6, 2) := by decide +kernel
theorem dX12_copy_155 : decode cX12_copy 155 = .ok (.iadd, 1) := by decide +kernel
theorem dX12_copy_156 : decode cX12_copy 156 = .ok (.iaload, 1) := by decide +kernel
theorem dX12_copy_157 : decode cX12_copy 157 = .ok (.iastore, 1) := by decide +kernel
theorem dX12_copy_158 : decode cX12_copy 158 = .ok (.iinc 6 1, 3) := by decide +kernel
theorem dX12_copy_161 : decode cX12_copy 161 = .ok (.goto (-31), 3) := by decide +kernel
theorem dX12_copy_164 : decode cX12_copy 164 = .ok (.iconst 0, 1) := by decide +kernel
theorem dX12_copy_165 : decode cX12_copy 165 = .ok (.istore 6, 2) := by decide +kernel
theorem dX12_copy_167 : decode cX12_copy 167 = .ok (.iload 6, 2) := by decide +kernel
theorem dX12_copy_169 : decode cX12_copy 169 = .ok (.iload 5, 2) := by decide +kernel
theorem dX12_copy_171 : decode cX12_copy 171 = .ok (.if_icmp .ge 31, 3) := by decide +kernel
theorem dX12_copy_174 : decode cX12_copy 174 = .ok (.aload_n 0, 1) := by decide +kernel
theorem dX12_copy_175 : decode cX12_copy 175 = .ok (.getfield 25, 3) := by decide +kernel
theorem dX12_copy_178 : decode cX12_copy 178 = .ok (.bipush 40, 2) := by decide +kernel
theorem dX12_copy_180 : decode cX12_copy 180 = .ok (.iload_n 3, 1) := by decide +kernel
theorem dX12_copy_181 : decode cX12_copy 181 = .ok (.imul, 1) := by decide +kernel
theorem dX12_copy_182 : decode cX12_copy 182 = .ok (.iload 4, 2) := by decide +kernel
theorem dX12_copy_184 : decode cX12_copy 184 = .ok (.iadd, 1) := by decide +kernel
theorem dX12_copy_185 : decode cX12_copy 185 = .ok (.iload 6, 2) := by decide +kernel
theorem dX12_copy_187 : decode cX12_copy 187 = .ok (.iadd, 1) := by decide +kernel
theorem dX12_copy_188 : decode cX12_copy 188 = .ok (.aload_n 0, 1) := by decide +kernel
theorem dX12_copy_189 : decode cX12_copy 189 = .ok (.getfield 28, 3) := by decide +kernel
theorem dX12_copy_192 : decode cX12_copy 192 = .ok (.iload 6, 2) := by decide +kernel
theorem dX12_copy_194 : decode cX12_copy 194 = .ok (.iaload, 1) := by decide +kernel
theorem dX12_copy_195 : decode cX12_copy 195 = .ok (.iastore, 1) := by decide +kernel
theorem dX12_copy_196 : decode cX12_copy 196 = .ok (.iinc 6 1, 3) := by decide +kernel
theorem dX12_copy_199 : decode cX12_copy 199 = .ok (.goto (-32), 3) := by decide +kernel
theorem dX12_copy_202 : decode cX12_copy 202 = .ok (.aload_n 0, 1) := by decide +kernel
theorem dX12_copy_203 : decode cX12_copy 203 = .ok (.iload 5, 2) := by decide +kernel
theorem dX12_copy_205 : decode cX12_copy 205 = .ok (.invokevirtual 71, 3) := by decide +kernel
theorem dX12_copy_208 : decode cX12_copy 208 = .ok (.ireturn, 1) := by decide +kernel
theorem dX12_drop_0 : decode cX12_drop 0 = .ok (.iload_n 1, 1) := by decide +kernel
theorem dX12_drop_1 : decode cX12_drop 1 = .ok (.i2l, 1) := by decide +kernel
theorem dX12_drop_2 : decode cX12_drop 2 = .ok (.lconst 0, 1) := by decide +kernel
theorem dX12_drop_3 : decode cX12_drop 3 = .ok (.ldc2_w 58, 3) := by decide +kernel
theorem dX12_drop_6 : decode cX12_drop 6 = .ok (.invokestatic 60, 3) := by decide +kernel
theorem dX12_drop_9 : decode cX12_drop 9 = .ok (.ifCond .ne 6, 3) := by decide +kernel
theorem dX12_drop_12 : decode cX12_drop 12 = .ok (.ldc 66, 2) := by decide +kernel
theorem dX12_drop_14 : decode cX12_drop 14 = .ok (.ireturn, 1) := by decide +kernel
theorem dX12_drop_15 : decode cX12_drop 15 = .ok (.aload_n 0, 1) := by decide +kernel
theorem dX12_drop_16 : decode cX12_drop 16 = .ok (.getfield 22, 3) := by decide +kernel
theorem dX12_drop_19 : decode cX12_drop 19 = .ok (.iload_n 1, 1) := by decide +kernel
theorem dX12_drop_20 : decode cX12_drop 20 = .ok (.iaload, 1) := by decide +kernel
theorem dX12_drop_21 : decode cX12_drop 21 = .ok (.ifCond .ge 9, 3) := by decide +kernel
theorem dX12_drop_24 : decode cX12_drop 24 = .ok (.aload_n 0, 1) := by decide +kernel
theorem dX12_drop_25 : decode cX12_drop 25 = .ok (.iconst 1, 1) := by decide +kernel
theorem dX12_drop_26 : decode cX12_drop 26 = .ok (.invokevirtual 67, 3) := by decide +kernel
theorem dX12_drop_29 : decode cX12_drop 29 = .ok (.ireturn, 1) := by decide +kernel
theorem dX12_drop_30 : decode cX12_drop 30 = .ok (.aload_n 0, 1) := by decide +kernel
theorem dX12_drop_31 : decode cX12_drop 31 = .ok (.getfield 22, 3) := by decide +kernel
theorem dX12_drop_34 : decode cX12_drop 34 = .ok (.iload_n 1, 1) := by decide +kernel
theorem dX12_drop_35 : decode cX12_drop 35 = .ok (.iaload, 1) := by decide +kernel
theorem dX12_drop_36 : decode cX12_drop 36 = .ok (.istore_n 2, 1) := by decide +kernel
theorem dX12_drop_37 : decode cX12_drop 37 = .ok (.aload_n 0, 1) := by decide +kernel
theorem dX12_drop_38 : decode cX12_drop 38 = .ok (.getfield 22, 3) := by decide +kernel
theorem dX12_drop_41 : decode cX12_drop 41 = .ok (.iload_n 1, 1) := by decide +kernel
theorem dX12_drop_42 : decode cX12_drop 42 = .ok (.iconst (-1), 1) := by decide +kernel
theorem dX12_drop_43 : decode cX12_drop 43 = .ok (.iastore, 1) := by decide +kernel
theorem dX12_drop_44 : decode cX12_drop 44 = .ok (.aload_n 0, 1) := by decide +kernel
theorem dX12_drop_45 : decode cX12_drop 45 = .ok (.iload_n 2, 1) := by decide +kernel
theorem dX12_drop_46 : decode cX12_drop 46 = .ok (.invokevirtual 71, 3) := by decide +kernel
theorem dX12_drop_49 : decode cX12_drop 49 = .ok (.ireturn, 1) := by decide +kernel
theorem dX12_feed_0 : decode cX12_feed 0 = .ok (.iload_n 1, 1) := by decide +kernel
theorem dX12_feed_1 : decode cX12_feed 1 = .ok (.i2l, 1) := by decide +kernel
theorem dX12_feed_2 : decode cX12_feed 2 = .ok (.lconst 0, 1) := by decide +kernel
theorem dX12_feed_3 : decode cX12_feed 3 = .ok (.ldc2_w 74, 3) := by decide +kernel
theorem dX12_feed_6 : decode cX12_feed 6 = .ok (.invokestatic 60, 3) := by decide +kernel
theorem dX12_feed_9 : decode cX12_feed 9 = .ok (.ifCond .ne 6, 3) := by decide +kernel
theorem dX12_feed_12 : decode cX12_feed 12 = .ok (.ldc 66, 2) := by decide +kernel
theorem dX12_feed_14 : decode cX12_feed 14 = .ok (.ireturn, 1) := by decide +kernel
theorem dX12_feed_15 : decode cX12_feed 15 = .ok (.aload_n 0, 1) := by decide +kernel
theorem dX12_feed_16 : decode cX12_feed 16 = .ok (.getfield 76, 3) := by decide +kernel
theorem dX12_feed_19 : decode cX12_feed 19 = .ok (.bipush 90, 2) := by decide +kernel
theorem dX12_feed_21 : decode cX12_feed 21 = .ok (.if_icmp .ne 6, 3) := by decide +kernel
theorem dX12_feed_24 : decode cX12_feed 24 = .ok (.ldc 79, 2) := by decide +kernel
theorem dX12_feed_26 : decode cX12_feed 26 = .ok (.ireturn, 1) := by decide +kernel
theorem dX12_feed_27 : decode cX12_feed 27 = .ok (.aload_n 0, 1) := by decide +kernel
theorem dX12_feed_28 : decode cX12_feed 28 = .ok (.getfield 31, 3) := by decide +kernel
theorem dX12_feed_31 : decode cX12_feed 31 = .ok (.aload_n 0, 1) := by decide +kernel
theorem dX12_feed_32 : decode cX12_feed 32 = .ok (.getfield 76, 3) := by decide +kernel
theorem dX12_feed_35 : decode cX12_feed 35 = .ok (.iload_n 1, 1) := by decide +kernel
theorem dX12_feed_36 : decode cX12_feed 36 = .ok (.i2b, 1) := by decide +kernel
theorem dX12_feed_37 : decode cX12_feed 37 = .ok (.bastore, 1) := by decide +kernel
theorem dX12_feed_38 : decode cX12_feed 38 = .ok (.aload_n 0, 1) := by decide +kernel
theorem dX12_feed_39 : decode cX12_feed 39 = .ok (.dup, 1) := by decide +kernel
theorem dX12_feed_40 : decode cX12_feed 40 = .ok (.getfield 76, 3) := by decide +kernel
theorem dX12_feed_43 : decode cX12_feed 43 = .ok (.iconst 1, 1) := by decide +kernel
theorem dX12_feed_44 : decode cX12_feed 44 = .ok (.iadd, 1) := by decide +kernel
theorem dX12_feed_45 : decode cX12_feed 45 = .ok (.putfield 76, 3) := by decide +kernel
theorem dX12_feed_48 : decode cX12_feed 48 = .ok (.aload_n 0, 1) := by decide +kernel
theorem dX12_feed_49 : decode cX12_feed 49 = .ok (.getfield 76, 3) := by decide +kernel
theorem dX12_feed_52 : decode cX12_feed 52 = .ok (.ireturn, 1) := by decide +kernel
theorem dX12_byteAt_0 : decode cX12_byteAt 0 = .ok (.iload_n 1, 1) := by decide +kernel
theorem dX12_byteAt_1 : decode cX12_byteAt 1 = .ok (.aload_n 0, 1) := by decide +kernel
theorem dX12_byteAt_2 : decode cX12_byteAt 2 = .ok (.getfield 76, 3) := by decide +kernel
theorem dX12_byteAt_5 : decode cX12_byteAt 5 = .ok (.if_icmp .ge 16, 3) := by decide +kernel
theorem dX12_byteAt_8 : decode cX12_byteAt 8 = .ok (.aload_n 0, 1) := by decide +kernel
theorem dX12_byteAt_9 : decode cX12_byteAt 9 = .ok (.getfield 31, 3) := by decide +kernel
theorem dX12_byteAt_12 : decode cX12_byteAt 12 = .ok (.iload_n 1, 1) := by decide +kernel
theorem dX12_byteAt_13 : decode cX12_byteAt 13 = .ok (.baload, 1) := by decide +kernel
theorem dX12_byteAt_14 : decode cX12_byteAt 14 = .ok (.sipush 255, 3) := by decide +kernel
theorem dX12_byteAt_17 : decode cX12_byteAt 17 = .ok (.iand, 1) := by decide +kernel
theorem dX12_byteAt_18 : decode cX12_byteAt 18 = .ok (.goto 4, 3) := by decide +kernel
theorem dX12_byteAt_21 : decode cX12_byteAt 21 = .ok (.iconst (-1), 1) := by decide +kernel
theorem dX12_byteAt_22 : decode cX12_byteAt 22 = .ok (.ireturn, 1) := by decide +kernel
theorem dX12_token_0 : decode cX12_token 0 = .ok (.aload_n 0, 1) := by decide +kernel
theorem dX12_token_1 : decode cX12_token 1 = .ok (.aload_n 0, 1) := by decide +kernel
theorem dX12_token_2 : decode cX12_token 2 = .ok (.getfield 80, 3) := by decide +kernel
theorem dX12_token_5 : decode cX12_token 5 = .ok (.putfield 83, 3) := by decide +kernel
theorem dX12_token_8 : decode cX12_token 8 = .ok (.aload_n 0, 1) := by decide +kernel
theorem dX12_token_9 : decode cX12_token 9 = .ok (.aload_n 0, 1) := by decide +kernel
theorem dX12_token_10 : decode cX12_token 10 = .ok (.getfield 80, 3) := by decide +kernel
theorem dX12_token_13 : decode cX12_token 13 = .ok (.invokevirtual 86, 3) := by decide +kernel
theorem dX12_token_16 : decode cX12_token 16 = .ok (.istore_n 1, 1) := by decide +kernel
theorem dX12_token_17 : decode cX12_token 17 = .ok (.iload_n 1, 1) := by decide +kernel
theorem dX12_token_18 : decode cX12_token 18 = .ok (.ifCond .ge 5, 3) := by decide +kernel
theorem dX12_token_21 : decode cX12_token 21 = .ok (.iconst 3, 1) := by decide +kernel
theorem dX12_token_22 : decode cX12_token 22 = .ok (.ireturn, 1) := by decide +kernel
theorem dX12_token_23 : decode cX12_token 23 = .ok (.iload_n 1, 1) := by decide +kernel
theorem dX12_token_24 : decode cX12_token 24 = .ok (.i2l, 1) := by decide +kernel
theorem dX12_token_25 : decode cX12_token 25 = .ok (.ldc2_w 89, 3) := by decide +kernel
theorem dX12_token_28 : decode cX12_token 28 = .ok (.ldc2_w 91, 3) := by decide +kernel
theorem dX12_token_31 : decode cX12_token 31 = .ok (.invokestatic 60, 3) := by decide +kernel
theorem dX12_token_34 : decode cX12_token 34 = .ok (.ifCond .eq 93, 3) := by decide +kernel
theorem dX12_token_37 : decode cX12_token 37 = .ok (.aload_n 0, 1) := by decide +kernel
theorem dX12_token_38 : decode cX12_token 38 = .ok (.iconst 0, 1) := by decide +kernel
theorem dX12_token_39 : decode cX12_token 39 = .ok (.putfield 93, 3) := by decide +kernel
theorem dX12_token_42 : decode cX12_token 42 = .ok (.iconst 0, 1) := by decide +kernel
theorem dX12_token_43 : decode cX12_token 43 = .ok (.istore_n 2, 1) := by decide +kernel
theorem dX12_token_44 : decode cX12_token 44 = .ok (.aload_n 0, 1) := by decide +kernel
theorem dX12_token_45 : decode cX12_token 45 = .ok (.aload_n 0, 1) := by decide +kernel
theorem dX12_token_46 : decode cX12_token 46 = .ok (.getfield 80, 3) := by decide +kernel
theorem dX12_token_49 : decode cX12_token 49 = .ok (.invokevirtual 86, 3) := by decide +kernel
theorem dX12_token_52 : decode cX12_token 52 = .ok (.i2l, 1) := by decide +kernel
theorem dX12_token_53 : decode cX12_token 53 = .ok (.ldc2_w 89, 3) := by decide +kernel
theorem dX12_token_56 : decode cX12_token 56 = .ok (.ldc2_w 91, 3) := by decide +kernel
theorem dX12_token_59 : decode cX12_token 59 = .ok (.invokestatic 60, 3) := by decide +kernel
theorem dX12_token_62 : decode cX12_token 62 = .ok (.ifCond .eq 54, 3) := by decide +kernel
theorem dX12_token_65 : decode cX12_token 65 = .ok (.aload_n 0, 1) := by decide +kernel
theorem dX12_token_66 : decode cX12_token 66 = .ok (.iload_n 2, 1) := by decide +kernel
theorem dX12_token_67 : decode cX12_token 67 = .ok (.iconst 2, 1) := by decide +kernel
theorem dX12_token_68 : decode cX12_token 68 = .ok (.if_icmp .ge 25, 3) := by decide +kernel
theorem dX12_token_71 : decode cX12_token 71 = .ok (.bipush 10, 2) := by decide +kernel
theorem dX12_token_73 : decode cX12_token 73 = .ok (.aload_n 0, 1) := by decide +kernel
theorem dX12_token_74 : decode cX12_token 74 = .ok (.getfield 93, 3) := by decide +kernel
theorem dX12_token_77 : decode cX12_token 77 = .ok (.imul, 1) := by decide +kernel
theorem dX12_token_78 : decode cX12_token 78 = .ok (.aload_n 0, 1) := by decide +kernel
theorem dX12_token_79 : decode cX12_token 79 = .ok (.aload_n 0, 1) := by decide +kernel
theorem dX12_token_80 : decode cX12_token 80 = .ok (.getfield 80, 3) := by decide +kernel
theorem dX12_token_83 : decode cX12_token 83 = .ok (.invokevirtual 86, 3) := by decide +kernel
theorem dX12_token_86 : decode cX12_token 86 = .ok (.iadd, 1) := by decide +kernel
theorem dX12_token_87 : decode cX12_token 87 = .ok (.bipush 48, 2) := by decide +kernel
theorem dX12_token_89 : decode cX12_token 89 = .ok (.isub, 1) := by decide +kernel
theorem dX12_token_90 : decode cX12_token 90 = .ok (.goto 7, 3) := by decide +kernel
theorem dX12_token_93 : decode cX12_token 93 = .ok (.aload_n 0, 1) := by decide +kernel
theorem dX12_token_94 : decode cX12_token 94 = .ok (.getfield 93, 3) := by decide +kernel
theorem dX12_token_97 : decode cX12_token 97 = .ok (.putfield 93, 3) := by decide +kernel
theorem dX12_token_100 : decode cX12_token 100 = .ok (.iinc 2 1, 3) := by decide +kernel
theorem dX12_token_103 : decode cX12_token 103 = .ok (.aload_n 0, 1) := by decide +kernel
theorem dX12_token_104 : decode cX12_token 104 = .ok (.dup, 1) := by decide +kernel
theorem dX12_token_105 : decode cX12_token 105 = .ok (.getfield 80, 3) := by decide +kernel
theorem dX12_token_108 : decode cX12_token 108 = .ok (.iconst 1, 1) := by decide +kernel
theorem dX12_token_109 : decode cX12_token 109 = .ok (.iadd, 1) := by decide +kernel
theorem dX12_token_110 : decode cX12_token 110 = .ok (.putfield 80, 3) := by decide +kernel
theorem dX12_token_113 : decode cX12_token 113 = .ok (.goto (-69), 3) := by decide +kernel
theorem dX12_token_116 : decode cX12_token 116 = .ok (.iload_n 2, 1) := by decide +kernel
theorem dX12_token_117 : decode cX12_token 117 = .ok (.iconst 2, 1) := by decide +kernel
theorem dX12_token_118 : decode cX12_token 118 = .ok (.if_icmp .le 7, 3) := by decide +kernel
theorem dX12_token_121 : decode cX12_token 121 = .ok (.iconst 2, 1) := by decide +kernel
theorem dX12_token_122 : decode cX12_token 122 = .ok (.goto 4, 3) := by decide +kernel
theorem dX12_token_125 : decode cX12_token 125 = .ok (.iconst 1, 1) := by decide +kernel
theorem dX12_token_126 : decode cX12_token 126 = .ok (.ireturn, 1) := by decide +kernel
theorem dX12_token_127 : decode cX12_token 127 = .ok (.aload_n 0, 1) := by decide +kernel
theorem dX12_token_128 : decode cX12_token 128 = .ok (.dup, 1) := by decide +kernel
theorem dX12_token_129 : decode cX12_token 129 = .ok (.getfield 80, 3) := by decide +kernel
theorem dX12_token_132 : decode cX12_token 132 = .ok (.iconst 1, 1) := by decide +kernel
theorem dX12_token_133 : decode cX12_token 133 = .ok (.iadd, 1) := by decide +kernel
theorem dX12_token_134 : decode cX12_token 134 = .ok (.putfield 80, 3) := by decide +kernel
theorem dX12_token_137 : decode cX12_token 137 = .ok (.iload_n 1, 1) := by decide +kernel
theorem dX12_token_138 : decode cX12_token 138 = .ok (.i2l, 1) := by decide +kernel
theorem dX12_token_139 : decode cX12_token 139 = .ok (.ldc2_w 96, 3) := by decide +kernel
theorem dX12_token_142 : decode cX12_token 142 = .ok (.ldc2_w 98, 3) := by decide +kernel
theorem dX12_token_145 : decode cX12_token 145 = .ok (.invokestatic 60, 3) := by decide +kernel
theorem dX12_token_148 : decode cX12_token 148 = .ok (.ifCond .ne 15, 3) := by decide +kernel
theorem dX12_token_151 : decode cX12_token 151 = .ok (.iload_n 1, 1) := by decide +kernel
theorem dX12_token_152 : decode cX12_token 152 = .ok (.bipush 44, 2) := by decide +kernel
theorem dX12_token_154 : decode cX12_token 154 = .ok (.if_icmp .eq 9, 3) := by decide +kernel
theorem dX12_token_157 : decode cX12_token 157 = .ok (.iload_n 1, 1) := by decide +kernel
theorem dX12_token_158 : decode cX12_token 158 = .ok (.bipush 59, 2) := by decide +kernel
theorem dX12_token_160 : decode cX12_token 160 = .ok (.if_icmp .ne 7, 3) := by decide +kernel
theorem dX12_token_163 : decode cX12_token 163 = .ok (.iload_n 1, 1) := by decide +kernel
theorem dX12_token_164 : decode cX12_token 164 = .ok (.goto 4, 3) := by decide +kernel
theorem dX12_token_167 : decode cX12_token 167 = .ok (.iconst 2, 1) := by decide +kernel
theorem dX12_token_168 : decode cX12_token 168 = .ok (.ireturn, 1) := by decide +kernel
theorem dX12_wants_0 : decode cX12_wants 0 = .ok (.aload_n 0, 1) := by decide +kernel
theorem dX12_wants_1 : decode cX12_wants 1 = .ok (.getfield 100, 3) := by decide +kernel
theorem dX12_wants_4 : decode cX12_wants 4 = .ok (.ifCond .le 5, 3) := by decide +kernel
theorem dX12_wants_7 : decode cX12_wants 7 = .ok (.iconst 0, 1) := by decide +kernel
theorem dX12_wants_8 : decode cX12_wants 8 = .ok (.ireturn, 1) := by decide +kernel
theorem dX12_wants_9 : decode cX12_wants 9 = .ok (.aload_n 0, 1) := by decide +kernel
theorem dX12_wants_10 : decode cX12_wants 10 = .ok (.invokevirtual 103, 3) := by decide +kernel
theorem dX12_wants_13 : decode cX12_wants 13 = .ok (.iconst 1, 1) := by decide +kernel
theorem dX12_wants_14 : decode cX12_wants 14 = .ok (.if_icmp .ne 7, 3) := by decide +kernel
theorem dX12_wants_17 : decode cX12_wants 17 = .ok (.iconst 1, 1) := by decide +kernel
theorem dX12_wants_18 : decode cX12_wants 18 = .ok (.goto 4, 3) := by decide +kernel
theorem dX12_wants_21 : decode cX12_wants 21 = .ok (.iconst 0, 1) := by decide +kernel
theorem dX12_wants_22 : decode cX12_wants 22 = .ok (.istore_n 3, 1) := by decide +kernel
theorem dX12_wants_23 : decode cX12_wants 23 = .ok (.aload_n 0, 1) := by decide +kernel
theorem dX12_wants_24 : decode cX12_wants 24 = .ok (.iload_n 3, 1) := by decide +kernel
theorem dX12_wants_25 : decode cX12_wants 25 = .ok (.ifCond .ne 7, 3) := by decide +kernel
theorem dX12_wants_28 : decode cX12_wants 28 = .ok (.iconst 1, 1) := by decide +kernel
theorem dX12_wants_29 : decode cX12_wants 29 = .ok (.goto 23, 3) := by decide +kernel
theorem dX12_wants_32 : decode cX12_wants 32 = .ok (.aload_n 0, 1) := by decide +kernel
theorem dX12_wants_33 : decode cX12_wants 33 = .ok (.getfield 93, 3) := by decide +kernel
theorem dX12_wants_36 : decode cX12_wants 36 = .ok (.i2l, 1) := by decide +kernel
theorem dX12_wants_37 : decode cX12_wants 37 = .ok (.iload_n 1, 1) := by decide +kernel
theorem dX12_wants_38 : decode cX12_wants 38 = .ok (.i2l, 1) := by decide +kernel
theorem dX12_wants_39 : decode cX12_wants 39 = .ok (.iload_n 2, 1) := by decide +kernel
theorem dX12_wants_40 : decode cX12_wants 40 = .ok (.i2l, 1) := by decide +kernel
theorem dX12_wants_41 : decode cX12_wants 41 = .ok (.invokestatic 60, 3) := by decide +kernel
theorem dX12_wants_44 : decode cX12_wants 44 = .ok (.ifCond .eq 7, 3) := by decide +kernel
theorem dX12_wants_47 : decode cX12_wants 47 = .ok (.iconst 0, 1) := by decide +kernel
theorem dX12_wants_48 : decode cX12_wants 48 = .ok (.goto 4, 3) := by decide +kernel
theorem dX12_wants_51 : decode cX12_wants 51 = .ok (.iconst 2, 1) := by decide +kernel
theorem dX12_wants_52 : decode cX12_wants 52 = .ok (.putfield 100, 3) := by decide +kernel
theorem dX12_wants_55 : decode cX12_wants 55 = .ok (.aload_n 0, 1) := by decide +kernel
theorem dX12_wants_56 : decode cX12_wants 56 = .ok (.getfield 100, 3) := by decide +kernel
theorem dX12_wants_59 : decode cX12_wants 59 = .ok (.ifCond .le 7, 3) := by decide +kernel
theorem dX12_wants_62 : decode cX12_wants 62 = .ok (.iconst 0, 1) := by decide +kernel
theorem dX12_wants_63 : decode cX12_wants 63 = .ok (.goto 7, 3) := by decide +kernel
theorem dX12_wants_66 : decode cX12_wants 66 = .ok (.aload_n 0, 1) := by decide +kernel
theorem dX12_wants_67 : decode cX12_wants 67 = .ok (.getfield 93, 3) := by decide +kernel
theorem dX12_wants_70 : decode cX12_wants 70 = .ok (.ireturn, 1) := by decide +kernel
theorem dX12_sign_0 : decode cX12_sign 0 = .ok (.aload_n 0, 1) := by decide +kernel
theorem dX12_sign_1 : decode cX12_sign 1 = .ok (.getfield 100, 3) := by decide +kernel
theorem dX12_sign_4 : decode cX12_sign 4 = .ok (.ifCond .ne 20, 3) := by decide +kernel
theorem dX12_sign_7 : decode cX12_sign 7 = .ok (.aload_n 0, 1) := by decide +kernel
theorem dX12_sign_8 : decode cX12_sign 8 = .ok (.aload_n 0, 1) := by decide +kernel
theorem dX12_sign_9 : decode cX12_sign 9 = .ok (.invokevirtual 103, 3) := by decide +kernel
theorem dX12_sign_12 : decode cX12_sign 12 = .ok (.iload_n 1, 1) := by decide +kernel
theorem dX12_sign_13 : decode cX12_sign 13 = .ok (.if_icmp .ne 7, 3) := by decide +kernel
theorem dX12_sign_16 : decode cX12_sign 16 = .ok (.iconst 0, 1) := by decide +kernel
theorem dX12_sign_17 : decode cX12_sign 17 = .ok (.goto 4, 3) := by decide +kernel
theorem dX12_sign_20 : decode cX12_sign 20 = .ok (.iconst 1, 1) := by decide +kernel
theorem dX12_sign_21 : decode cX12_sign 21 = .ok (.putfield 100, 3) := by decide +kernel
theorem dX12_sign_24 : decode cX12_sign 24 = .ok (.return_, 1) := by decide +kernel
theorem dX12_sortOf_0 : decode cX12_sortOf 0 = .ok (.iload_n 0, 1) := by decide +kernel
theorem dX12_sortOf_1 : decode cX12_sortOf 1 = .ok (.bipush 119, 2) := by decide +kernel
theorem dX12_sortOf_3 : decode cX12_sortOf 3 = .ok (.if_icmp .ne 7, 3) := by decide +kernel
theorem dX12_sortOf_6 : decode cX12_sortOf 6 = .ok (.iconst 1, 1) := by decide +kernel
theorem dX12_sortOf_7 : decode cX12_sortOf 7 = .ok (.goto 44, 3) := by decide +kernel
theorem dX12_sortOf_10 : decode cX12_sortOf 10 = .ok (.iload_n 0, 1) := by decide +kernel
theorem dX12_sortOf_11 : decode cX12_sortOf 11 = .ok (.bipush 115, 2) := by decide +kernel
theorem dX12_sortOf_13 : decode cX12_sortOf 13 = .ok (.if_icmp .ne 7, 3) := by decide +kernel
theorem dX12_sortOf_16 : decode cX12_sortOf 16 = .ok (.iconst 2, 1) := by decide +kernel
theorem dX12_sortOf_17 : decode cX12_sortOf 17 = .ok (.goto 34, 3) := by decide +kernel
theorem dX12_sortOf_20 : decode cX12_sortOf 20 = .ok (.iload_n 0, 1) := by decide +kernel
theorem dX12_sortOf_21 : decode cX12_sortOf 21 = .ok (.bipush 113, 2) := by decide +kernel
theorem dX12_sortOf_23 : decode cX12_sortOf 23 = .ok (.if_icmp .ne 7, 3) := by decide +kernel
theorem dX12_sortOf_26 : decode cX12_sortOf 26 = .ok (.iconst 3, 1) := by decide +kernel
theorem dX12_sortOf_27 : decode cX12_sortOf 27 = .ok (.goto 24, 3) := by decide +kernel
theorem dX12_sortOf_30 : decode cX12_sortOf 30 = .ok (.iload_n 0, 1) := by decide +kernel
theorem dX12_sortOf_31 : decode cX12_sortOf 31 = .ok (.bipush 98, 2) := by decide +kernel
theorem dX12_sortOf_33 : decode cX12_sortOf 33 = .ok (.if_icmp .ne 7, 3) := by decide +kernel
theorem dX12_sortOf_36 : decode cX12_sortOf 36 = .ok (.iconst 4, 1) := by decide +kernel
theorem dX12_sortOf_37 : decode cX12_sortOf 37 = .ok (.goto 14, 3) := by decide +kernel
theorem dX12_sortOf_40 : decode cX12_sortOf 40 = .ok (.iload_n 0, 1) := by decide +kernel
theorem dX12_sortOf_41 : decode cX12_sortOf 41 = .ok (.bipush 99, 2) := by decide +kernel
theorem dX12_sortOf_43 : decode cX12_sortOf 43 = .ok (.if_icmp .ne 7, 3) := by decide +kernel
theorem dX12_sortOf_46 : decode cX12_sortOf 46 = .ok (.iconst 5, 1) := by decide +kernel
theorem dX12_sortOf_47 : decode cX12_sortOf 47 = .ok (.goto 4, 3) := by decide +kernel
theorem dX12_sortOf_50 : decode cX12_sortOf 50 = .ok (.iconst 0, 1) := by decide +kernel
theorem dX12_sortOf_51 : decode cX12_sortOf 51 = .ok (.ireturn, 1) := by decide +kernel
theorem dX12_lineItem_0 : decode cX12_lineItem 0 = .ok (.aload_n 0, 1) := by decide +kernel
theorem dX12_lineItem_1 : decode cX12_lineItem 1 = .ok (.aload_n 0, 1) := by decide +kernel
theorem dX12_lineItem_2 : decode cX12_lineItem 2 = .ok (.getfield 35, 3) := by decide +kernel
theorem dX12_lineItem_5 : decode cX12_lineItem 5 = .ok (.iconst 0, 1) := by decide +kernel
theorem dX12_lineItem_6 : decode cX12_lineItem 6 = .ok (.iaload, 1) := by decide +kernel
theorem dX12_lineItem_7 : decode cX12_lineItem 7 = .ok (.iconst 4, 1) := by decide +kernel
theorem dX12_lineItem_8 : decode cX12_lineItem 8 = .ok (.if_icmp .ne 7, 3) := by decide +kernel
theorem dX12_lineItem_11 : decode cX12_lineItem 11 = .ok (.iconst 3, 1) := by decide +kernel
theorem dX12_lineItem_12 : decode cX12_lineItem 12 = .ok (.goto 4, 3) := by decide +kernel
theorem dX12_lineItem_15 : decode cX12_lineItem 15 = .ok (.iconst 0, 1) := by decide +kernel
theorem dX12_lineItem_16 : decode cX12_lineItem 16 = .ok (.putfield 100, 3) := by decide +kernel
theorem dX12_lineItem_19 : decode cX12_lineItem 19 = .ok (.aload_n 0, 1) := by decide +kernel
theorem dX12_lineItem_20 : decode cX12_lineItem 20 = .ok (.iconst 1, 1) := by decide +kernel
theorem dX12_lineItem_21 : decode cX12_lineItem 21 = .ok (.bipush 20, 2) := by decide +kernel
theorem dX12_lineItem_23 : decode cX12_lineItem 23 = .ok (.invokevirtual 107, 3) := by decide +kernel
theorem dX12_lineItem_26 : decode cX12_lineItem 26 = .ok (.istore_n 2, 1) := by decide +kernel
theorem dX12_lineItem_27 : decode cX12_lineItem 27 = .ok (.aload_n 0, 1) := by decide +kernel
theorem dX12_lineItem_28 : decode cX12_lineItem 28 = .ok (.bipush 59, 2) := by decide +kernel
theorem dX12_lineItem_30 : decode cX12_lineItem 30 = .ok (.invokevirtual 111, 3) := by decide +kernel
theorem dX12_lineItem_33 : decode cX12_lineItem 33 = .ok (.aload_n 0, 1) := by decide +kernel
theorem dX12_lineItem_34 : decode cX12_lineItem 34 = .ok (.getfield 100, 3) := by decide +kernel
theorem dX12_lineItem_37 : decode cX12_lineItem 37 = .ok (.ifCond .ne 39, 3) := by decide +kernel
theorem dX12_lineItem_40 : decode cX12_lineItem 40 = .ok (.aload_n 0, 1) := by decide +kernel
theorem dX12_lineItem_41 : decode cX12_lineItem 41 = .ok (.getfield 35, 3) := by decide +kernel
theorem dX12_lineItem_44 : decode cX12_lineItem 44 = .ok (.iconst 3, 1) := by decide +kernel
theorem dX12_lineItem_45 : decode cX12_lineItem 45 = .ok (.aload_n 0, 1) := by decide +kernel
theorem dX12_lineItem_46 : decode cX12_lineItem 46 = .ok (.getfield 35, 3) := by decide +kernel
theorem dX12_lineItem_49 : decode cX12_lineItem 49 = .ok (.iconst 0, 1) := by decide +kernel
theorem dX12_lineItem_50 : decode cX12_lineItem 50 = .ok (.iaload, 1) := by decide +kernel
theorem dX12_lineItem_51 : decode cX12_lineItem 51 = .ok (.iadd, 1) := by decide +kernel
theorem dX12_lineItem_52 : decode cX12_lineItem 52 = .ok (.iload_n 1, 1) := by decide +kernel
theorem dX12_lineItem_53 : decode cX12_lineItem 53 = .ok (.iastore, 1) := by decide +kernel
theorem dX12_lineItem_54 : decode cX12_lineItem 54 = .ok (.aload_n 0, 1) := by decide +kernel
theorem dX12_lineItem_55 : decode cX12_lineItem 55 = .ok (.getfield 38, 3) := by decide +kernel
theorem dX12_lineItem_58 : decode cX12_lineItem 58 = .ok (.aload_n 0, 1) := by decide +kernel
theorem dX12_lineItem_59 : decode cX12_lineItem 59 = .ok (.getfield 35, 3) := by decide +kernel
theorem dX12_lineItem_62 : decode cX12_lineItem 62 = .ok (.iconst 0, 1) := by decide +kernel
theorem dX12_lineItem_63 : decode cX12_lineItem 63 = .ok (.iaload, 1) := by decide +kernel
theorem dX12_lineItem_64 : decode cX12_lineItem 64 = .ok (.iload_n 2, 1) := by decide +kernel
theorem dX12_lineItem_65 : decode cX12_lineItem 65 = .ok (.iastore, 1) := by decide +kernel
theorem dX12_lineItem_66 : decode cX12_lineItem 66 = .ok (.aload_n 0, 1) := by decide +kernel
theorem dX12_lineItem_67 : decode cX12_lineItem 67 = .ok (.getfield 35, 3) := by decide +kernel
theorem dX12_lineItem_70 : decode cX12_lineItem 70 = .ok (.iconst 0, 1) := by decide +kernel
theorem dX12_lineItem_71 : decode cX12_lineItem 71 = .ok (.dup2, 1) := by decide +kernel
theorem dX12_lineItem_72 : decode cX12_lineItem 72 = .ok (.iaload, 1) := by decide +kernel
theorem dX12_lineItem_73 : decode cX12_lineItem 73 = .ok (.iconst 1, 1) := by decide +kernel
theorem dX12_lineItem_74 : decode cX12_lineItem 74 = .ok (.iadd, 1) := by decide +kernel
theorem dX12_lineItem_75 : decode cX12_lineItem 75 = .ok (.iastore, 1) := by decide +kernel
theorem dX12_lineItem_76 : decode cX12_lineItem 76 = .ok (.return_, 1) := by decide +kernel
theorem dX12_thingItem_0 : decode cX12_thingItem 0 = .ok (.aload_n 0, 1) := by decide +kernel
theorem dX12_thingItem_1 : decode cX12_thingItem 1 = .ok (.aload_n 0, 1) := by decide +kernel
theorem dX12_thingItem_2 : decode cX12_thingItem 2 = .ok (.getfield 35, 3) := by decide +kernel
theorem dX12_thingItem_5 : decode cX12_thingItem 5 = .ok (.iconst 1, 1) := by decide +kernel
theorem dX12_thingItem_6 : decode cX12_thingItem 6 = .ok (.iaload, 1) := by decide +kernel
theorem dX12_thingItem_7 : decode cX12_thingItem 7 = .ok (.bipush 6, 2) := by decide +kernel
theorem dX12_thingItem_9 : decode cX12_thingItem 9 = .ok (.if_icmp .ne 7, 3) := by decide +kernel
theorem dX12_thingItem_12 : decode cX12_thingItem 12 = .ok (.iconst 3, 1) := by decide +kernel
theorem dX12_thingItem_13 : decode cX12_thingItem 13 = .ok (.goto 4, 3) := by decide +kernel
theorem dX12_thingItem_16 : decode cX12_thingItem 16 = .ok (.iconst 0, 1) := by decide +kernel
theorem dX12_thingItem_17 : decode cX12_thingItem 17 = .ok (.putfield 100, 3) := by decide +kernel
theorem dX12_thingItem_20 : decode cX12_thingItem 20 = .ok (.aload_n 0, 1) := by decide +kernel
theorem dX12_thingItem_21 : decode cX12_thingItem 21 = .ok (.iconst 0, 1) := by decide +kernel
theorem dX12_thingItem_22 : decode cX12_thingItem 22 = .ok (.aload_n 0, 1) := by decide +kernel
theorem dX12_thingItem_23 : decode cX12_thingItem 23 = .ok (.getfield 35, 3) := by decide +kernel
theorem dX12_thingItem_26 : decode cX12_thingItem 26 = .ok (.iconst 0, 1) := by decide +kernel
theorem dX12_thingItem_27 : decode cX12_thingItem 27 = .ok (.iaload, 1) := by decide +kernel
theorem dX12_thingItem_28 : decode cX12_thingItem 28 = .ok (.iconst 1, 1) := by decide +kernel
theorem dX12_thingItem_29 : decode cX12_thingItem 29 = .ok (.isub, 1) := by decide +kernel
theorem dX12_thingItem_30 : decode cX12_thingItem 30 = .ok (.invokevirtual 107, 3) := by decide +kernel
theorem dX12_thingItem_33 : decode cX12_thingItem 33 = .ok (.istore_n 1, 1) := by decide +kernel
theorem dX12_thingItem_34 : decode cX12_thingItem 34 = .ok (.aload_n 0, 1) := by decide +kernel
theorem dX12_thingItem_35 : decode cX12_thingItem 35 = .ok (.bipush 44, 2) := by decide +kernel
theorem dX12_thingItem_37 : decode cX12_thingItem 37 = .ok (.invokevirtual 111, 3) := by decide +kernel
theorem dX12_thingItem_40 : decode cX12_thingItem 40 = .ok (.aload_n 0, 1) := by decide +kernel
theorem dX12_thingItem_41 : decode cX12_thingItem 41 = .ok (.iconst 1, 1) := by decide +kernel
theorem dX12_thingItem_42 : decode cX12_thingItem 42 = .ok (.bipush 20, 2) := by decide +kernel
theorem dX12_thingItem_44 : decode cX12_thingItem 44 = .ok (.invokevirtual 107, 3) := by decide +kernel
theorem dX12_thingItem_47 : decode cX12_thingItem 47 = .ok (.istore_n 2, 1) := by decide +kernel
theorem dX12_thingItem_48 : decode cX12_thingItem 48 = .ok (.aload_n 0, 1) := by decide +kernel
theorem dX12_thingItem_49 : decode cX12_thingItem 49 = .ok (.bipush 44, 2) := by decide +kernel
theorem dX12_thingItem_51 : decode cX12_thingItem 51 = .ok (.invokevirtual 111, 3) := by decide +kernel
theorem dX12_thingItem_54 : decode cX12_thingItem 54 = .ok (.aload_n 0, 1) := by decide +kernel
theorem dX12_thingItem_55 : decode cX12_thingItem 55 = .ok (.iconst 0, 1) := by decide +kernel
theorem dX12_thingItem_56 : decode cX12_thingItem 56 = .ok (.iconst 1, 1) := by decide +kernel
theorem dX12_thingItem_57 : decode cX12_thingItem 57 = .ok (.invokevirtual 107, 3) := by decide +kernel
theorem dX12_thingItem_60 : decode cX12_thingItem 60 = .ok (.istore_n 3, 1) := by decide +kernel
theorem dX12_thingItem_61 : decode cX12_thingItem 61 = .ok (.aload_n 0, 1) := by decide +kernel
theorem dX12_thingItem_62 : decode cX12_thingItem 62 = .ok (.bipush 59, 2) := by decide +kernel
theorem dX12_thingItem_64 : decode cX12_thingItem 64 = .ok (.invokevirtual 111, 3) := by decide +kernel
theorem dX12_thingItem_67 : decode cX12_thingItem 67 = .ok (.aload_n 0, 1) := by decide +kernel
theorem dX12_thingItem_68 : decode cX12_thingItem 68 = .ok (.getfield 100, 3) := by decide +kernel
theorem dX12_thingItem_71 : decode cX12_thingItem 71 = .ok (.ifCond .ne 52, 3) := by decide +kernel
theorem dX12_thingItem_74 : decode cX12_thingItem 74 = .ok (.aload_n 0, 1) := by decide +kernel
theorem dX12_thingItem_75 : decode cX12_thingItem 75 = .ok (.getfield 35, 3) := by decide +kernel
theorem dX12_thingItem_78 : decode cX12_thingItem 78 = .ok (.bipush 7, 2) := by decide +kernel
theorem dX12_thingItem_80 : decode cX12_thingItem 80 = .ok (.aload_n 0, 1) := by decide +kernel
theorem dX12_thingItem_81 : decode cX12_thingItem 81 = .ok (.getfield 35, 3) := by decide +kernel
theorem dX12_thingItem_84 : decode cX12_thingItem 84 = .ok (.iconst 1, 1) := by decide +kernel
theorem dX12_thingItem_85 : decode cX12_thingItem 85 = .ok (.iaload, 1) := by decide +kernel
theorem dX12_thingItem_86 : decode cX12_thingItem 86 = .ok (.iadd, 1) := by decide +kernel
theorem dX12_thingItem_87 : decode cX12_thingItem 87 = .ok (.iload_n 2, 1) := by decide +kernel
theorem dX12_thingItem_88 : decode cX12_thingItem 88 = .ok (.iastore, 1) := by decide +kernel
theorem dX12_thingItem_89 : decode cX12_thingItem 89 = .ok (.aload_n 0, 1) := by decide +kernel
theorem dX12_thingItem_90 : decode cX12_thingItem 90 = .ok (.getfield 41, 3) := by decide +kernel
theorem dX12_thingItem_93 : decode cX12_thingItem 93 = .ok (.aload_n 0, 1) := by decide +kernel
theorem dX12_thingItem_94 : decode cX12_thingItem 94 = .ok (.getfield 35, 3) := by decide +kernel
theorem dX12_thingItem_97 : decode cX12_thingItem 97 = .ok (.iconst 1, 1) := by decide +kernel
theorem dX12_thingItem_98 : decode cX12_thingItem 98 = .ok (.iaload, 1) := by decide +kernel
theorem dX12_thingItem_99 : decode cX12_thingItem 99 = .ok (.iload_n 1, 1) := by decide +kernel
theorem dX12_thingItem_100 : decode cX12_thingItem 100 = .ok (.iastore, 1) := by decide +kernel
theorem dX12_thingItem_101 : decode cX12_thingItem 101 = .ok (.aload_n 0, 1) := by decide +kernel
theorem dX12_thingItem_102 : decode cX12_thingItem 102 = .ok (.getfield 44, 3) := by decide +kernel
theorem dX12_thingItem_105 : decode cX12_thingItem 105 = .ok (.aload_n 0, 1) := by decide +kernel
theorem dX12_thingItem_106 : decode cX12_thingItem 106 = .ok (.getfield 35, 3) := by decide +kernel
theorem dX12_thingItem_109 : decode cX12_thingItem 109 = .ok (.iconst 1, 1) := by decide +kernel
theorem dX12_thingItem_110 : decode cX12_thingItem 110 = .ok (.iaload, 1) := by decide +kernel
theorem dX12_thingItem_111 : decode cX12_thingItem 111 = .ok (.iload_n 3, 1) := by decide +kernel
theorem dX12_thingItem_112 : decode cX12_thingItem 112 = .ok (.iastore, 1) := by decide +kernel
theorem dX12_thingItem_113 : decode cX12_thingItem 113 = .ok (.aload_n 0, 1) := by decide +kernel
theorem dX12_thingItem_114 : decode cX12_thingItem 114 = .ok (.getfield 35, 3) := by decide +kernel
theorem dX12_thingItem_117 : decode cX12_thingItem 117 = .ok (.iconst 1, 1) := by decide +kernel
theorem dX12_thingItem_118 : decode cX12_thingItem 118 = .ok (.dup2, 1) := by decide +kernel
theorem dX12_thingItem_119 : decode cX12_thingItem 119 = .ok (.iaload, 1) := by decide +kernel
theorem dX12_thingItem_120 : decode cX12_thingItem 120 = .ok (.iconst 1, 1) := by decide +kernel
theorem dX12_thingItem_121 : decode cX12_thingItem 121 = .ok (.iadd, 1) := by decide +kernel
theorem dX12_thingItem_122 : decode cX12_thingItem 122 = .ok (.iastore, 1) := by decide +kernel
theorem dX12_thingItem_123 : decode cX12_thingItem 123 = .ok (.return_, 1) := by decide +kernel
theorem dX12_reads_0 : decode cX12_reads 0 = .ok (.aload_n 0, 1) := by decide +kernel
theorem dX12_reads_1 : decode cX12_reads 1 = .ok (.iconst 0, 1) := by decide +kernel
theorem dX12_reads_2 : decode cX12_reads 2 = .ok (.putfield 80, 3) := by decide +kernel
theorem dX12_reads_5 : decode cX12_reads 5 = .ok (.aload_n 0, 1) := by decide +kernel
theorem dX12_reads_6 : decode cX12_reads 6 = .ok (.aload_n 0, 1) := by decide +kernel
theorem dX12_reads_7 : decode cX12_reads 7 = .ok (.invokevirtual 103, 3) := by decide +kernel
theorem dX12_reads_10 : decode cX12_reads 10 = .ok (.bipush 109, 2) := by decide +kernel
theorem dX12_reads_12 : decode cX12_reads 12 = .ok (.if_icmp .ne 7, 3) := by decide +kernel
theorem dX12_reads_15 : decode cX12_reads 15 = .ok (.iconst 0, 1) := by decide +kernel
theorem dX12_reads_16 : decode cX12_reads 16 = .ok (.goto 4, 3) := by decide +kernel
theorem dX12_reads_19 : decode cX12_reads 19 = .ok (.iconst 1, 1) := by decide +kernel
theorem dX12_reads_20 : decode cX12_reads 20 = .ok (.putfield 100, 3) := by decide +kernel
theorem dX12_reads_23 : decode cX12_reads 23 = .ok (.aload_n 0, 1) := by decide +kernel
theorem dX12_reads_24 : decode cX12_reads 24 = .ok (.getfield 35, 3) := by decide +kernel
theorem dX12_reads_27 : decode cX12_reads 27 = .ok (.iconst 0, 1) := by decide +kernel
theorem dX12_reads_28 : decode cX12_reads 28 = .ok (.iconst 0, 1) := by decide +kernel
theorem dX12_reads_29 : decode cX12_reads 29 = .ok (.iastore, 1) := by decide +kernel
theorem dX12_reads_30 : decode cX12_reads 30 = .ok (.aload_n 0, 1) := by decide +kernel
theorem dX12_reads_31 : decode cX12_reads 31 = .ok (.getfield 35, 3) := by decide +kernel
theorem dX12_reads_34 : decode cX12_reads 34 = .ok (.iconst 1, 1) := by decide +kernel
theorem dX12_reads_35 : decode cX12_reads 35 = .ok (.iconst 0, 1) := by decide +kernel
theorem dX12_reads_36 : decode cX12_reads 36 = .ok (.iastore, 1) := by decide +kernel
theorem dX12_reads_37 : decode cX12_reads 37 = .ok (.aload_n 0, 1) := by decide +kernel
theorem dX12_reads_38 : decode cX12_reads 38 = .ok (.getfield 35, 3) := by decide +kernel
theorem dX12_reads_41 : decode cX12_reads 41 = .ok (.iconst 2, 1) := by decide +kernel
theorem dX12_reads_42 : decode cX12_reads 42 = .ok (.aload_n 0, 1) := by decide +kernel
theorem dX12_reads_43 : decode cX12_reads 43 = .ok (.iconst 1, 1) := by decide +kernel
theorem dX12_reads_44 : decode cX12_reads 44 = .ok (.bipush 60, 2) := by decide +kernel
theorem dX12_reads_46 : decode cX12_reads 46 = .ok (.invokevirtual 107, 3) := by decide +kernel
theorem dX12_reads_49 : decode cX12_reads 49 = .ok (.iastore, 1) := by decide +kernel
theorem dX12_reads_50 : decode cX12_reads 50 = .ok (.aload_n 0, 1) := by decide +kernel
theorem dX12_reads_51 : decode cX12_reads 51 = .ok (.bipush 59, 2) := by decide +kernel
theorem dX12_reads_53 : decode cX12_reads 53 = .ok (.invokevirtual 111, 3) := by decide +kernel
theorem dX12_reads_56 : decode cX12_reads 56 = .ok (.aload_n 0, 1) := by decide +kernel
theorem dX12_reads_57 : decode cX12_reads 57 = .ok (.getfield 100, 3) := by decide +kernel
theorem dX12_reads_60 : decode cX12_reads 60 = .ok (.ifCond .ne 7, 3) := by decide +kernel
theorem dX12_reads_63 : decode cX12_reads 63 = .ok (.iconst 1, 1) := by decide +kernel
theorem dX12_reads_64 : decode cX12_reads 64 = .ok (.goto 4, 3) := by decide +kernel
theorem dX12_reads_67 : decode cX12_reads 67 = .ok (.iconst 0, 1) := by decide +kernel
theorem dX12_reads_68 : decode cX12_reads 68 = .ok (.istore_n 1, 1) := by decide +kernel
theorem dX12_reads_69 : decode cX12_reads 69 = .ok (.iload_n 1, 1) := by decide +kernel
theorem dX12_reads_70 : decode cX12_reads 70 = .ok (.ifCond .eq 109, 3) := by decide +kernel
theorem dX12_reads_73 : decode cX12_reads 73 = .ok (.aload_n 0, 1) := by decide +kernel
theorem dX12_reads_74 : decode cX12_reads 74 = .ok (.invokevirtual 103, 3) := by decide +kernel
theorem dX12_reads_77 : decode cX12_reads 77 = .ok (.istore_n 2, 1) := by decide +kernel
theorem dX12_reads_78 : decode cX12_reads 78 = .ok (.iload_n 2, 1) := by decide +kernel
theorem dX12_reads_79 : decode cX12_reads 79 = .ok (.iconst 3, 1) := by decide +kernel
theorem dX12_reads_80 : decode cX12_reads 80 = .ok (.if_icmp .le 10, 3) := by decide +kernel
theorem dX12_reads_83 : decode cX12_reads 83 = .ok (.iload_n 2, 1) := by decide +kernel
theorem dX12_reads_84 : decode cX12_reads 84 = .ok (.invokestatic 115, 3) := by decide +kernel
theorem dX12_reads_87 : decode cX12_reads 87 = .ok (.goto 4, 3) := by decide +kernel
theorem dX12_reads_90 : decode cX12_reads 90 = .ok (.iconst 0, 1) := by decide +kernel
theorem dX12_reads_91 : decode cX12_reads 91 = .ok (.istore_n 3, 1) := by decide +kernel
theorem dX12_reads_92 : decode cX12_reads 92 = .ok (.iload_n 2, 1) := by decide +kernel
theorem dX12_reads_93 : decode cX12_reads 93 = .ok (.iconst 3, 1) := by decide +kernel
theorem dX12_reads_94 : decode cX12_reads 94 = .ok (.if_icmp .ne 17, 3) := by decide +kernel
theorem dX12_reads_97 : decode cX12_reads 97 = .ok (.aload_n 0, 1) := by decide +kernel
theorem dX12_reads_98 : decode cX12_reads 98 = .ok (.getfield 35, 3) := by decide +kernel
theorem dX12_reads_101 : decode cX12_reads 101 = .ok (.iconst 1, 1) := by decide +kernel
theorem dX12_reads_102 : decode cX12_reads 102 = .ok (.iaload, 1) := by decide +kernel
theorem dX12_reads_103 : decode cX12_reads 103 = .ok (.ifCond .le 8, 3) := by decide +kernel
theorem dX12_reads_106 : decode cX12_reads 106 = .ok (.iconst 0, 1) := by decide +kernel
theorem dX12_reads_107 : decode cX12_reads 107 = .ok (.istore_n 1, 1) := by decide +kernel
theorem dX12_reads_108 : decode cX12_reads 108 = .ok (.goto 51, 3) := by decide +kernel
theorem dX12_reads_111 : decode cX12_reads 111 = .ok (.iload_n 3, 1) := by decide +kernel
theorem dX12_reads_112 : decode cX12_reads 112 = .ok (.ifCond .le 20, 3) := by decide +kernel
theorem dX12_reads_115 : decode cX12_reads 115 = .ok (.aload_n 0, 1) := by decide +kernel
theorem dX12_reads_116 : decode cX12_reads 116 = .ok (.getfield 35, 3) := by decide +kernel
theorem dX12_reads_119 : decode cX12_reads 119 = .ok (.iconst 1, 1) := by decide +kernel
theorem dX12_reads_120 : decode cX12_reads 120 = .ok (.iaload, 1) := by decide +kernel
theorem dX12_reads_121 : decode cX12_reads 121 = .ok (.ifCond .ne 11, 3) := by decide +kernel
theorem dX12_reads_124 : decode cX12_reads 124 = .ok (.aload_n 0, 1) := by decide +kernel
theorem dX12_reads_125 : decode cX12_reads 125 = .ok (.iload_n 3, 1) := by decide +kernel
theorem dX12_reads_126 : decode cX12_reads 126 = .ok (.invokevirtual 118, 3) := by decide +kernel
theorem dX12_reads_129 : decode cX12_reads 129 = .ok (.goto 30, 3) := by decide +kernel
theorem dX12_reads_132 : decode cX12_reads 132 = .ok (.iload_n 2, 1) := by decide +kernel
theorem dX12_reads_133 : decode cX12_reads 133 = .ok (.bipush 116, 2) := by decide +kernel
theorem dX12_reads_135 : decode cX12_reads 135 = .ok (.if_icmp .ne 19, 3) := by decide +kernel
theorem dX12_reads_138 : decode cX12_reads 138 = .ok (.aload_n 0, 1) := by decide +kernel
theorem dX12_reads_139 : decode cX12_reads 139 = .ok (.getfield 35, 3) := by decide +kernel
theorem dX12_reads_142 : decode cX12_reads 142 = .ok (.iconst 0, 1) := by decide +kernel
theorem dX12_reads_143 : decode cX12_reads 143 = .ok (.iaload, 1) := by decide +kernel
theorem dX12_reads_144 : decode cX12_reads 144 = .ok (.ifCond .le 10, 3) := by decide +kernel
theorem dX12_reads_147 : decode cX12_reads 147 = .ok (.aload_n 0, 1) := by decide +kernel
theorem dX12_reads_148 : decode cX12_reads 148 = .ok (.invokevirtual 121, 3) := by decide +kernel
theorem dX12_reads_151 : decode cX12_reads 151 = .ok (.goto 8, 3) := by decide +kernel
theorem dX12_reads_154 : decode cX12_reads 154 = .ok (.aload_n 0, 1) := by decide +kernel
theorem dX12_reads_155 : decode cX12_reads 155 = .ok (.iconst 1, 1) := by decide +kernel
theorem dX12_reads_156 : decode cX12_reads 156 = .ok (.putfield 100, 3) := by decide +kernel
theorem dX12_reads_159 : decode cX12_reads 159 = .ok (.iload_n 1, 1) := by decide +kernel
theorem dX12_reads_160 : decode cX12_reads 160 = .ok (.ifCond .eq 14, 3) := by decide +kernel
theorem dX12_reads_163 : decode cX12_reads 163 = .ok (.aload_n 0, 1) := by decide +kernel
theorem dX12_reads_164 : decode cX12_reads 164 = .ok (.getfield 100, 3) := by decide +kernel
theorem dX12_reads_167 : decode cX12_reads 167 = .ok (.ifCond .ne 7, 3) := by decide +kernel
theorem dX12_reads_170 : decode cX12_reads 170 = .ok (.iconst 1, 1) := by decide +kernel
theorem dX12_reads_171 : decode cX12_reads 171 = .ok (.goto 4, 3) := by decide +kernel
theorem dX12_reads_174 : decode cX12_reads 174 = .ok (.iconst 0, 1) := by decide +kernel
theorem dX12_reads_175 : decode cX12_reads 175 = .ok (.istore_n 1, 1) := by decide +kernel
theorem dX12_reads_176 : decode cX12_reads 176 = .ok (.goto (-107), 3) := by decide +kernel
theorem dX12_reads_179 : decode cX12_reads 179 = .ok (.return_, 1) := by decide +kernel
theorem dX12_house_0 : decode cX12_house 0 = .ok (.aload_n 0, 1) := by decide +kernel
theorem dX12_house_1 : decode cX12_house 1 = .ok (.invokevirtual 124, 3) := by decide +kernel
theorem dX12_house_4 : decode cX12_house 4 = .ok (.aload_n 0, 1) := by decide +kernel
theorem dX12_house_5 : decode cX12_house 5 = .ok (.iconst 0, 1) := by decide +kernel
theorem dX12_house_6 : decode cX12_house 6 = .ok (.putfield 76, 3) := by decide +kernel
theorem dX12_house_9 : decode cX12_house 9 = .ok (.aload_n 0, 1) := by decide +kernel
theorem dX12_house_10 : decode cX12_house 10 = .ok (.getfield 100, 3) := by decide +kernel
theorem dX12_house_13 : decode cX12_house 13 = .ok (.ifCond .le 19, 3) := by decide +kernel
theorem dX12_house_16 : decode cX12_house 16 = .ok (.aload_n 0, 1) := by decide +kernel
theorem dX12_house_17 : decode cX12_house 17 = .ok (.aload_n 0, 1) := by decide +kernel
theorem dX12_house_18 : decode cX12_house 18 = .ok (.getfield 100, 3) := by decide +kernel
theorem dX12_house_21 : decode cX12_house 21 = .ok (.putfield 127, 3) := by decide +kernel
theorem dX12_house_24 : decode cX12_house 24 = .ok (.ldc 130, 2) := by decide +kernel
theorem dX12_house_26 : decode cX12_house 26 = .ok (.aload_n 0, 1) := by decide +kernel
theorem dX12_house_27 : decode cX12_house 27 = .ok (.getfield 83, 3) := by decide +kernel
theorem dX12_house_30 : decode cX12_house 30 = .ok (.isub, 1) := by decide +kernel
theorem dX12_house_31 : decode cX12_house 31 = .ok (.ireturn, 1) := by decide +kernel
theorem dX12_house_32 : decode cX12_house 32 = .ok (.iconst 0, 1) := by decide +kernel
theorem dX12_house_33 : decode cX12_house 33 = .ok (.istore_n 1, 1) := by decide +kernel
theorem dX12_house_34 : decode cX12_house 34 = .ok (.iload_n 1, 1) := by decide +kernel
theorem dX12_house_35 : decode cX12_house 35 = .ok (.bipush 13, 2) := by decide +kernel
theorem dX12_house_37 : decode cX12_house 37 = .ok (.if_icmp .ge 21, 3) := by decide +kernel
theorem dX12_house_40 : decode cX12_house 40 = .ok (.aload_n 0, 1) := by decide +kernel
theorem dX12_house_41 : decode cX12_house 41 = .ok (.getfield 13, 3) := by decide +kernel
theorem dX12_house_44 : decode cX12_house 44 = .ok (.iload_n 1, 1) := by decide +kernel
theorem dX12_house_45 : decode cX12_house 45 = .ok (.aload_n 0, 1) := by decide +kernel
theorem dX12_house_46 : decode cX12_house 46 = .ok (.getfield 35, 3) := by decide +kernel
theorem dX12_house_49 : decode cX12_house 49 = .ok (.iload_n 1, 1) := by decide +kernel
theorem dX12_house_50 : decode cX12_house 50 = .ok (.iaload, 1) := by decide +kernel
theorem dX12_house_51 : decode cX12_house 51 = .ok (.iastore, 1) := by decide +kernel
theorem dX12_house_52 : decode cX12_house 52 = .ok (.iinc 1 1, 3) := by decide +kernel
theorem dX12_house_55 : decode cX12_house 55 = .ok (.goto (-21), 3) := by decide +kernel
theorem dX12_house_58 : decode cX12_house 58 = .ok (.iconst 0, 1) := by decide +kernel
theorem dX12_house_59 : decode cX12_house 59 = .ok (.istore_n 1, 1) := by decide +kernel
theorem dX12_house_60 : decode cX12_house 60 = .ok (.iload_n 1, 1) := by decide +kernel
theorem dX12_house_61 : decode cX12_house 61 = .ok (.bipush 27, 2) := by decide +kernel
theorem dX12_house_63 : decode cX12_house 63 = .ok (.if_icmp .ge 16, 3) := by decide +kernel
theorem dX12_house_66 : decode cX12_house 66 = .ok (.aload_n 0, 1) := by decide +kernel
theorem dX12_house_67 : decode cX12_house 67 = .ok (.getfield 7, 3) := by decide +kernel
theorem dX12_house_70 : decode cX12_house 70 = .ok (.iload_n 1, 1) := by decide +kernel
theorem dX12_house_71 : decode cX12_house 71 = .ok (.iconst 0, 1) := by decide +kernel
theorem dX12_house_72 : decode cX12_house 72 = .ok (.iastore, 1) := by decide +kernel
theorem dX12_house_73 : decode cX12_house 73 = .ok (.iinc 1 1, 3) := by decide +kernel
theorem dX12_house_76 : decode cX12_house 76 = .ok (.goto (-16), 3) := by decide +kernel
theorem dX12_house_79 : decode cX12_house 79 = .ok (.iconst 0, 1) := by decide +kernel
theorem dX12_house_80 : decode cX12_house 80 = .ok (.istore_n 1, 1) := by decide +kernel
theorem dX12_house_81 : decode cX12_house 81 = .ok (.iload_n 1, 1) := by decide +kernel
theorem dX12_house_82 : decode cX12_house 82 = .ok (.aload_n 0, 1) := by decide +kernel
theorem dX12_house_83 : decode cX12_house 83 = .ok (.getfield 13, 3) := by decide +kernel
theorem dX12_house_86 : decode cX12_house 86 = .ok (.iconst 0, 1) := by decide +kernel
theorem dX12_house_87 : decode cX12_house 87 = .ok (.iaload, 1) := by decide +kernel
theorem dX12_house_88 : decode cX12_house 88 = .ok (.if_icmp .ge 24, 3) := by decide +kernel
theorem dX12_house_91 : decode cX12_house 91 = .ok (.aload_n 0, 1) := by decide +kernel
theorem dX12_house_92 : decode cX12_house 92 = .ok (.getfield 7, 3) := by decide +kernel
theorem dX12_house_95 : decode cX12_house 95 = .ok (.bipush 8, 2) := by decide +kernel
theorem dX12_house_97 : decode cX12_house 97 = .ok (.iload_n 1, 1) := by decide +kernel
theorem dX12_house_98 : decode cX12_house 98 = .ok (.iadd, 1) := by decide +kernel
theorem dX12_house_99 : decode cX12_house 99 = .ok (.aload_n 0, 1) := by decide +kernel
theorem dX12_house_100 : decode cX12_house 100 = .ok (.getfield 38, 3) := by decide +kernel
theorem dX12_house_103 : decode cX12_house 103 = .ok (.iload_n 1, 1) := by decide +kernel
theorem dX12_house_104 : decode cX12_house 104 = .ok (.iaload, 1) := by decide +kernel
theorem dX12_house_105 : decode cX12_house 105 = .ok (.iastore, 1) := by decide +kernel
theorem dX12_house_106 : decode cX12_house 106 = .ok (.iinc 1 1, 3) := by decide +kernel
theorem dX12_house_109 : decode cX12_house 109 = .ok (.goto (-28), 3) := by decide +kernel
theorem dX12_house_112 : decode cX12_house 112 = .ok (.iconst 0, 1) := by decide +kernel
theorem dX12_house_113 : decode cX12_house 113 = .ok (.istore_n 1, 1) := by decide +kernel
theorem dX12_house_114 : decode cX12_house 114 = .ok (.iload_n 1, 1) := by decide +kernel
theorem dX12_house_115 : decode cX12_house 115 = .ok (.aload_n 0, 1) := by decide +kernel
theorem dX12_house_116 : decode cX12_house 116 = .ok (.getfield 13, 3) := by decide +kernel
theorem dX12_house_119 : decode cX12_house 119 = .ok (.iconst 1, 1) := by decide +kernel
theorem dX12_house_120 : decode cX12_house 120 = .ok (.iaload, 1) := by decide +kernel
theorem dX12_house_121 : decode cX12_house 121 = .ok (.if_icmp .ge 39, 3) := by decide +kernel
theorem dX12_house_124 : decode cX12_house 124 = .ok (.aload_n 0, 1) := by decide +kernel
theorem dX12_house_125 : decode cX12_house 125 = .ok (.getfield 7, 3) := by decide +kernel
theorem dX12_house_128 : decode cX12_house 128 = .ok (.bipush 12, 2) := by decide +kernel
theorem dX12_house_130 : decode cX12_house 130 = .ok (.iload_n 1, 1) := by decide +kernel
theorem dX12_house_131 : decode cX12_house 131 = .ok (.iadd, 1) := by decide +kernel
theorem dX12_house_132 : decode cX12_house 132 = .ok (.aload_n 0, 1) := by decide +kernel
theorem dX12_house_133 : decode cX12_house 133 = .ok (.getfield 41, 3) := by decide +kernel
theorem dX12_house_136 : decode cX12_house 136 = .ok (.iload_n 1, 1) := by decide +kernel
theorem dX12_house_137 : decode cX12_house 137 = .ok (.iaload, 1) := by decide +kernel
theorem dX12_house_138 : decode cX12_house 138 = .ok (.iastore, 1) := by decide +kernel
theorem dX12_house_139 : decode cX12_house 139 = .ok (.aload_n 0, 1) := by decide +kernel
theorem dX12_house_140 : decode cX12_house 140 = .ok (.getfield 7, 3) := by decide +kernel
theorem dX12_house_143 : decode cX12_house 143 = .ok (.bipush 18, 2) := by decide +kernel
theorem dX12_house_145 : decode cX12_house 145 = .ok (.iload_n 1, 1) := by decide +kernel
theorem dX12_house_146 : decode cX12_house 146 = .ok (.iadd, 1) := by decide +kernel
theorem dX12_house_147 : decode cX12_house 147 = .ok (.aload_n 0, 1) := by decide +kernel
theorem dX12_house_148 : decode cX12_house 148 = .ok (.getfield 44, 3) := by decide +kernel
theorem dX12_house_151 : decode cX12_house 151 = .ok (.iload_n 1, 1) := by decide +kernel
theorem dX12_house_152 : decode cX12_house 152 = .ok (.iaload, 1) := by decide +kernel
theorem dX12_house_153 : decode cX12_house 153 = .ok (.iastore, 1) := by decide +kernel
theorem dX12_house_154 : decode cX12_house 154 = .ok (.iinc 1 1, 3) := by decide +kernel
theorem dX12_house_157 : decode cX12_house 157 = .ok (.goto (-43), 3) := by decide +kernel
theorem dX12_house_160 : decode cX12_house 160 = .ok (.aload_n 0, 1) := by decide +kernel
theorem dX12_house_161 : decode cX12_house 161 = .ok (.iconst 0, 1) := by decide +kernel
theorem dX12_house_162 : decode cX12_house 162 = .ok (.putfield 131, 3) := by decide +kernel
theorem dX12_house_165 : decode cX12_house 165 = .ok (.aload_n 0, 1) := by decide +kernel
theorem dX12_house_166 : decode cX12_house 166 = .ok (.getfield 13, 3) := by decide +kernel
theorem dX12_house_169 : decode cX12_house 169 = .ok (.iconst 0, 1) := by decide +kernel
theorem dX12_house_170 : decode cX12_house 170 = .ok (.iaload, 1) := by decide +kernel
theorem dX12_house_171 : decode cX12_house 171 = .ok (.ireturn, 1) := by decide +kernel
theorem dX12_fault_0 : decode cX12_fault 0 = .ok (.aload_n 0, 1) := by decide +kernel
theorem dX12_fault_1 : decode cX12_fault 1 = .ok (.getfield 127, 3) := by decide +kernel
theorem dX12_fault_4 : decode cX12_fault 4 = .ok (.ireturn, 1) := by decide +kernel
theorem dX12_isLine_0 : decode cX12_isLine 0 = .ok (.iload_n 1, 1) := by decide +kernel
theorem dX12_isLine_1 : decode cX12_isLine 1 = .ok (.i2l, 1) := by decide +kernel
theorem dX12_isLine_2 : decode cX12_isLine 2 = .ok (.lconst 0, 1) := by decide +kernel
theorem dX12_isLine_3 : decode cX12_isLine 3 = .ok (.aload_n 0, 1) := by decide +kernel
theorem dX12_isLine_4 : decode cX12_isLine 4 = .ok (.getfield 13, 3) := by decide +kernel
theorem dX12_isLine_7 : decode cX12_isLine 7 = .ok (.iconst 0, 1) := by decide +kernel
theorem dX12_isLine_8 : decode cX12_isLine 8 = .ok (.iaload, 1) := by decide +kernel
theorem dX12_isLine_9 : decode cX12_isLine 9 = .ok (.iconst 1, 1) := by decide +kernel
theorem dX12_isLine_10 : decode cX12_isLine 10 = .ok (.isub, 1) := by decide +kernel
theorem dX12_isLine_11 : decode cX12_isLine 11 = .ok (.i2l, 1) := by decide +kernel
theorem dX12_isLine_12 : decode cX12_isLine 12 = .ok (.invokestatic 60, 3) := by decide +kernel
theorem dX12_isLine_15 : decode cX12_isLine 15 = .ok (.ireturn, 1) := by decide +kernel
theorem dX12_isThing_0 : decode cX12_isThing 0 = .ok (.iload_n 1, 1) := by decide +kernel
theorem dX12_isThing_1 : decode cX12_isThing 1 = .ok (.i2l, 1) := by decide +kernel
theorem dX12_isThing_2 : decode cX12_isThing 2 = .ok (.lconst 0, 1) := by decide +kernel
theorem dX12_isThing_3 : decode cX12_isThing 3 = .ok (.aload_n 0, 1) := by decide +kernel
theorem dX12_isThing_4 : decode cX12_isThing 4 = .ok (.getfield 13, 3) := by decide +kernel
theorem dX12_isThing_7 : decode cX12_isThing 7 = .ok (.iconst 1, 1) := by decide +kernel
theorem dX12_isThing_8 : decode cX12_isThing 8 = .ok (.iaload, 1) := by decide +kernel
theorem dX12_isThing_9 : decode cX12_isThing 9 = .ok (.iconst 1, 1) := by decide +kernel
theorem dX12_isThing_10 : decode cX12_isThing 10 = .ok (.isub, 1) := by decide +kernel
