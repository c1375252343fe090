theorem dX11_holds_52 : decode cX11_holds 52 = .ok (.getfield 69, 3) := by decide +kernel
theorem dX11_holds_55 : decode cX11_holds 55 = .ok (.iload_n 1, 1) := by decide +kernel
theorem dX11_holds_56 : decode cX11_holds 56 = .ok (.iload_n 2, 1) := by decide +kernel
theorem dX11_holds_57 : decode cX11_holds 57 = .ok (.invokevirtual 261, 3) := by decide +kernel
theorem dX11_holds_60 : decode cX11_holds 60 = .ok (.ifCond .eq 5, 3) := by decide +kernel
theorem dX11_holds_63 : decode cX11_holds 63 = .ok (.iload_n 3, 1) := by decide +kernel
theorem dX11_holds_64 : decode cX11_holds 64 = .ok (.ireturn, 1) := by decide +kernel
theorem dX11_holds_65 : decode cX11_holds 65 = .ok (.iinc 3 1, 3) := by decide +kernel
theorem dX11_holds_68 : decode cX11_holds 68 = .ok (.goto (-44), 3) := by decide +kernel
theorem dX11_holds_71 : decode cX11_holds 71 = .ok (.ldc 238, 2) := by decide +kernel
theorem dX11_holds_73 : decode cX11_holds 73 = .ok (.ireturn, 1) := by decide +kernel
theorem dX11_faulty_0 : decode cX11_faulty 0 = .ok (.aload_n 0, 1) := by decide +kernel
theorem dX11_faulty_1 : decode cX11_faulty 1 = .ok (.iload_n 1, 1) := by decide +kernel
theorem dX11_faulty_2 : decode cX11_faulty 2 = .ok (.invokevirtual 180, 3) := by decide +kernel
theorem dX11_faulty_5 : decode cX11_faulty 5 = .ok (.ifCond .ne 14, 3) := by decide +kernel
theorem dX11_faulty_8 : decode cX11_faulty 8 = .ok (.iload_n 2, 1) := by decide +kernel
theorem dX11_faulty_9 : decode cX11_faulty 9 = .ok (.iconst 1, 1) := by decide +kernel
theorem dX11_faulty_10 : decode cX11_faulty 10 = .ok (.if_icmp .lt 9, 3) := by decide +kernel
theorem dX11_faulty_13 : decode cX11_faulty 13 = .ok (.iload_n 2, 1) := by decide +kernel
theorem dX11_faulty_14 : decode cX11_faulty 14 = .ok (.bipush 30, 2) := by decide +kernel
theorem dX11_faulty_16 : decode cX11_faulty 16 = .ok (.if_icmp .le 6, 3) := by decide +kernel
theorem dX11_faulty_19 : decode cX11_faulty 19 = .ok (.ldc 77, 2) := by decide +kernel
theorem dX11_faulty_21 : decode cX11_faulty 21 = .ok (.ireturn, 1) := by decide +kernel
theorem dX11_faulty_22 : decode cX11_faulty 22 = .ok (.iconst 0, 1) := by decide +kernel
theorem dX11_faulty_23 : decode cX11_faulty 23 = .ok (.istore_n 3, 1) := by decide +kernel
theorem dX11_faulty_24 : decode cX11_faulty 24 = .ok (.iconst 0, 1) := by decide +kernel
theorem dX11_faulty_25 : decode cX11_faulty 25 = .ok (.istore 4, 2) := by decide +kernel
theorem dX11_faulty_27 : decode cX11_faulty 27 = .ok (.iload 4, 2) := by decide +kernel
theorem dX11_faulty_29 : decode cX11_faulty 29 = .ok (.aload_n 0, 1) := by decide +kernel
theorem dX11_faulty_30 : decode cX11_faulty 30 = .ok (.getfield 65, 3) := by decide +kernel
theorem dX11_faulty_33 : decode cX11_faulty 33 = .ok (.getfield 229, 3) := by decide +kernel
theorem dX11_faulty_36 : decode cX11_faulty 36 = .ok (.if_icmp .ge 60, 3) := by decide +kernel
theorem dX11_faulty_39 : decode cX11_faulty 39 = .ok (.aload_n 0, 1) := by decide +kernel
theorem dX11_faulty_40 : decode cX11_faulty 40 = .ok (.getfield 65, 3) := by decide +kernel
theorem dX11_faulty_43 : decode cX11_faulty 43 = .ok (.iload 4, 2) := by decide +kernel
theorem dX11_faulty_45 : decode cX11_faulty 45 = .ok (.invokevirtual 170, 3) := by decide +kernel
theorem dX11_faulty_48 : decode cX11_faulty 48 = .ok (.ifCond .eq 42, 3) := by decide +kernel
theorem dX11_faulty_51 : decode cX11_faulty 51 = .ok (.aload_n 0, 1) := by decide +kernel
theorem dX11_faulty_52 : decode cX11_faulty 52 = .ok (.getfield 69, 3) := by decide +kernel
theorem dX11_faulty_55 : decode cX11_faulty 55 = .ok (.aload_n 0, 1) := by decide +kernel
theorem dX11_faulty_56 : decode cX11_faulty 56 = .ok (.getfield 65, 3) := by decide +kernel
theorem dX11_faulty_59 : decode cX11_faulty 59 = .ok (.invokevirtual 140, 3) := by decide +kernel
theorem dX11_faulty_62 : decode cX11_faulty 62 = .ok (.aload_n 0, 1) := by decide +kernel
theorem dX11_faulty_63 : decode cX11_faulty 63 = .ok (.getfield 69, 3) := by decide +kernel
theorem dX11_faulty_66 : decode cX11_faulty 66 = .ok (.iload 4, 2) := by decide +kernel
theorem dX11_faulty_68 : decode cX11_faulty 68 = .ok (.invokevirtual 173, 3) := by decide +kernel
theorem dX11_faulty_71 : decode cX11_faulty 71 = .ok (.aload_n 0, 1) := by decide +kernel
theorem dX11_faulty_72 : decode cX11_faulty 72 = .ok (.getfield 69, 3) := by decide +kernel
theorem dX11_faulty_75 : decode cX11_faulty 75 = .ok (.iload_n 1, 1) := by decide +kernel
theorem dX11_faulty_76 : decode cX11_faulty 76 = .ok (.iload_n 2, 1) := by decide +kernel
theorem dX11_faulty_77 : decode cX11_faulty 77 = .ok (.invokevirtual 261, 3) := by decide +kernel
theorem dX11_faulty_80 : decode cX11_faulty 80 = .ok (.ifCond .eq 10, 3) := by decide +kernel
theorem dX11_faulty_83 : decode cX11_faulty 83 = .ok (.iload_n 3, 1) := by decide +kernel
theorem dX11_faulty_84 : decode cX11_faulty 84 = .ok (.iconst 1, 1) := by decide +kernel
theorem dX11_faulty_85 : decode cX11_faulty 85 = .ok (.iload 4, 2) := by decide +kernel
theorem dX11_faulty_87 : decode cX11_faulty 87 = .ok (.ishl, 1) := by decide +kernel
theorem dX11_faulty_88 : decode cX11_faulty 88 = .ok (.ior, 1) := by decide +kernel
theorem dX11_faulty_89 : decode cX11_faulty 89 = .ok (.istore_n 3, 1) := by decide +kernel
theorem dX11_faulty_90 : decode cX11_faulty 90 = .ok (.iinc 4 1, 3) := by decide +kernel
theorem dX11_faulty_93 : decode cX11_faulty 93 = .ok (.goto (-66), 3) := by decide +kernel
theorem dX11_faulty_96 : decode cX11_faulty 96 = .ok (.iload_n 3, 1) := by decide +kernel
theorem dX11_faulty_97 : decode cX11_faulty 97 = .ok (.ireturn, 1) := by decide +kernel
theorem dX11_bill_0 : decode cX11_bill 0 = .ok (.aload_n 0, 1) := by decide +kernel
theorem dX11_bill_1 : decode cX11_bill 1 = .ok (.iload_n 1, 1) := by decide +kernel
theorem dX11_bill_2 : decode cX11_bill 2 = .ok (.invokevirtual 167, 3) := by decide +kernel
theorem dX11_bill_5 : decode cX11_bill 5 = .ok (.ifCond .ne 14, 3) := by decide +kernel
theorem dX11_bill_8 : decode cX11_bill 8 = .ok (.iload_n 2, 1) := by decide +kernel
theorem dX11_bill_9 : decode cX11_bill 9 = .ok (.ifCond .lt 10, 3) := by decide +kernel
theorem dX11_bill_12 : decode cX11_bill 12 = .ok (.iload_n 2, 1) := by decide +kernel
theorem dX11_bill_13 : decode cX11_bill 13 = .ok (.sipush 999, 3) := by decide +kernel
theorem dX11_bill_16 : decode cX11_bill 16 = .ok (.if_icmp .le 6, 3) := by decide +kernel
theorem dX11_bill_19 : decode cX11_bill 19 = .ok (.ldc 77, 2) := by decide +kernel
theorem dX11_bill_21 : decode cX11_bill 21 = .ok (.ireturn, 1) := by decide +kernel
theorem dX11_bill_22 : decode cX11_bill 22 = .ok (.aload_n 0, 1) := by decide +kernel
theorem dX11_bill_23 : decode cX11_bill 23 = .ok (.getfield 65, 3) := by decide +kernel
theorem dX11_bill_26 : decode cX11_bill 26 = .ok (.invokevirtual 264, 3) := by decide +kernel
theorem dX11_bill_29 : decode cX11_bill 29 = .ok (.istore_n 3, 1) := by decide +kernel
theorem dX11_bill_30 : decode cX11_bill 30 = .ok (.aload_n 0, 1) := by decide +kernel
theorem dX11_bill_31 : decode cX11_bill 31 = .ok (.getfield 65, 3) := by decide +kernel
theorem dX11_bill_34 : decode cX11_bill 34 = .ok (.iload_n 1, 1) := by decide +kernel
theorem dX11_bill_35 : decode cX11_bill 35 = .ok (.invokevirtual 226, 3) := by decide +kernel
theorem dX11_bill_38 : decode cX11_bill 38 = .ok (.ifCond .eq 7, 3) := by decide +kernel
theorem dX11_bill_41 : decode cX11_bill 41 = .ok (.iload_n 3, 1) := by decide +kernel
theorem dX11_bill_42 : decode cX11_bill 42 = .ok (.ifCond .gt 5, 3) := by decide +kernel
theorem dX11_bill_45 : decode cX11_bill 45 = .ok (.iconst 0, 1) := by decide +kernel
theorem dX11_bill_46 : decode cX11_bill 46 = .ok (.ireturn, 1) := by decide +kernel
theorem dX11_bill_47 : decode cX11_bill 47 = .ok (.iload_n 2, 1) := by decide +kernel
theorem dX11_bill_48 : decode cX11_bill 48 = .ok (.istore 4, 2) := by decide +kernel
theorem dX11_bill_50 : decode cX11_bill 50 = .ok (.iconst 0, 1) := by decide +kernel
theorem dX11_bill_51 : decode cX11_bill 51 = .ok (.istore 5, 2) := by decide +kernel
theorem dX11_bill_53 : decode cX11_bill 53 = .ok (.iconst 0, 1) := by decide +kernel
theorem dX11_bill_54 : decode cX11_bill 54 = .ok (.istore 6, 2) := by decide +kernel
theorem dX11_bill_56 : decode cX11_bill 56 = .ok (.iload 6, 2) := by decide +kernel
theorem dX11_bill_58 : decode cX11_bill 58 = .ok (.aload_n 0, 1) := by decide +kernel
theorem dX11_bill_59 : decode cX11_bill 59 = .ok (.getfield 65, 3) := by decide +kernel
theorem dX11_bill_62 : decode cX11_bill 62 = .ok (.getfield 229, 3) := by decide +kernel
theorem dX11_bill_65 : decode cX11_bill 65 = .ok (.if_icmp .ge 56, 3) := by decide +kernel
theorem dX11_bill_68 : decode cX11_bill 68 = .ok (.aload_n 0, 1) := by decide +kernel
theorem dX11_bill_69 : decode cX11_bill 69 = .ok (.getfield 65, 3) := by decide +kernel
theorem dX11_bill_72 : decode cX11_bill 72 = .ok (.iload 6, 2) := by decide +kernel
theorem dX11_bill_74 : decode cX11_bill 74 = .ok (.invokevirtual 226, 3) := by decide +kernel
theorem dX11_bill_77 : decode cX11_bill 77 = .ok (.ifCond .eq 38, 3) := by decide +kernel
theorem dX11_bill_80 : decode cX11_bill 80 = .ok (.iload 4, 2) := by decide +kernel
theorem dX11_bill_82 : decode cX11_bill 82 = .ok (.iload_n 2, 1) := by decide +kernel
theorem dX11_bill_83 : decode cX11_bill 83 = .ok (.aload_n 0, 1) := by decide +kernel
theorem dX11_bill_84 : decode cX11_bill 84 = .ok (.getfield 65, 3) := by decide +kernel
theorem dX11_bill_87 : decode cX11_bill 87 = .ok (.getfield 223, 3) := by decide +kernel
theorem dX11_bill_90 : decode cX11_bill 90 = .ok (.iload 6, 2) := by decide +kernel
theorem dX11_bill_92 : decode cX11_bill 92 = .ok (.iaload, 1) := by decide +kernel
theorem dX11_bill_93 : decode cX11_bill 93 = .ok (.imul, 1) := by decide +kernel
theorem dX11_bill_94 : decode cX11_bill 94 = .ok (.iload_n 3, 1) := by decide +kernel
theorem dX11_bill_95 : decode cX11_bill 95 = .ok (.idiv, 1) := by decide +kernel
theorem dX11_bill_96 : decode cX11_bill 96 = .ok (.isub, 1) := by decide +kernel
theorem dX11_bill_97 : decode cX11_bill 97 = .ok (.istore 4, 2) := by decide +kernel
theorem dX11_bill_99 : decode cX11_bill 99 = .ok (.iload 5, 2) := by decide +kernel
theorem dX11_bill_101 : decode cX11_bill 101 = .ok (.iload 6, 2) := by decide +kernel
theorem dX11_bill_103 : decode cX11_bill 103 = .ok (.iload_n 1, 1) := by decide +kernel
theorem dX11_bill_104 : decode cX11_bill 104 = .ok (.if_icmp .ge 7, 3) := by decide +kernel
theorem dX11_bill_107 : decode cX11_bill 107 = .ok (.iconst 1, 1) := by decide +kernel
theorem dX11_bill_108 : decode cX11_bill 108 = .ok (.goto 4, 3) := by decide +kernel
theorem dX11_bill_111 : decode cX11_bill 111 = .ok (.iconst 0, 1) := by decide +kernel
theorem dX11_bill_112 : decode cX11_bill 112 = .ok (.iadd, 1) := by decide +kernel
theorem dX11_bill_113 : decode cX11_bill 113 = .ok (.istore 5, 2) := by decide +kernel
theorem dX11_bill_115 : decode cX11_bill 115 = .ok (.iinc 6 1, 3) := by decide +kernel
theorem dX11_bill_118 : decode cX11_bill 118 = .ok (.goto (-62), 3) := by decide +kernel
theorem dX11_bill_121 : decode cX11_bill 121 = .ok (.iload_n 2, 1) := by decide +kernel
theorem dX11_bill_122 : decode cX11_bill 122 = .ok (.aload_n 0, 1) := by decide +kernel
theorem dX11_bill_123 : decode cX11_bill 123 = .ok (.getfield 65, 3) := by decide +kernel
theorem dX11_bill_126 : decode cX11_bill 126 = .ok (.getfield 223, 3) := by decide +kernel
theorem dX11_bill_129 : decode cX11_bill 129 = .ok (.iload_n 1, 1) := by decide +kernel
theorem dX11_bill_130 : decode cX11_bill 130 = .ok (.iaload, 1) := by decide +kernel
theorem dX11_bill_131 : decode cX11_bill 131 = .ok (.imul, 1) := by decide +kernel
theorem dX11_bill_132 : decode cX11_bill 132 = .ok (.iload_n 3, 1) := by decide +kernel
theorem dX11_bill_133 : decode cX11_bill 133 = .ok (.idiv, 1) := by decide +kernel
theorem dX11_bill_134 : decode cX11_bill 134 = .ok (.iload 5, 2) := by decide +kernel
theorem dX11_bill_136 : decode cX11_bill 136 = .ok (.iload 4, 2) := by decide +kernel
theorem dX11_bill_138 : decode cX11_bill 138 = .ok (.if_icmp .ge 7, 3) := by decide +kernel
theorem dX11_bill_141 : decode cX11_bill 141 = .ok (.iconst 1, 1) := by decide +kernel
theorem dX11_bill_142 : decode cX11_bill 142 = .ok (.goto 4, 3) := by decide +kernel
theorem dX11_bill_145 : decode cX11_bill 145 = .ok (.iconst 0, 1) := by decide +kernel
theorem dX11_bill_146 : decode cX11_bill 146 = .ok (.iadd, 1) := by decide +kernel
theorem dX11_bill_147 : decode cX11_bill 147 = .ok (.ireturn, 1) := by decide +kernel
theorem dX11_sortsThatFit_0 : decode cX11_sortsThatFit 0 = .ok (.iconst 0, 1) := by decide +kernel
theorem dX11_sortsThatFit_1 : decode cX11_sortsThatFit 1 = .ok (.istore 5, 2) := by decide +kernel
theorem dX11_sortsThatFit_3 : decode cX11_sortsThatFit 3 = .ok (.iconst 1, 1) := by decide +kernel
theorem dX11_sortsThatFit_4 : decode cX11_sortsThatFit 4 = .ok (.istore 6, 2) := by decide +kernel
theorem dX11_sortsThatFit_6 : decode cX11_sortsThatFit 6 = .ok (.iload 6, 2) := by decide +kernel
theorem dX11_sortsThatFit_8 : decode cX11_sortsThatFit 8 = .ok (.iconst 5, 1) := by decide +kernel
theorem dX11_sortsThatFit_9 : decode cX11_sortsThatFit 9 = .ok (.if_icmp .gt 61, 3) := by decide +kernel
theorem dX11_sortsThatFit_12 : decode cX11_sortsThatFit 12 = .ok (.aload_n 0, 1) := by decide +kernel
theorem dX11_sortsThatFit_13 : decode cX11_sortsThatFit 13 = .ok (.getfield 69, 3) := by decide +kernel
theorem dX11_sortsThatFit_16 : decode cX11_sortsThatFit 16 = .ok (.aload_n 0, 1) := by decide +kernel
theorem dX11_sortsThatFit_17 : decode cX11_sortsThatFit 17 = .ok (.getfield 65, 3) := by decide +kernel
theorem dX11_sortsThatFit_20 : decode cX11_sortsThatFit 20 = .ok (.invokevirtual 140, 3) := by decide +kernel
theorem dX11_sortsThatFit_23 : decode cX11_sortsThatFit 23 = .ok (.aload_n 0, 1) := by decide +kernel
theorem dX11_sortsThatFit_24 : decode cX11_sortsThatFit 24 = .ok (.getfield 69, 3) := by decide +kernel
theorem dX11_sortsThatFit_27 : decode cX11_sortsThatFit 27 = .ok (.iload_n 1, 1) := by decide +kernel
theorem dX11_sortsThatFit_28 : decode cX11_sortsThatFit 28 = .ok (.iload 6, 2) := by decide +kernel
theorem dX11_sortsThatFit_30 : decode cX11_sortsThatFit 30 = .ok (.invokevirtual 303, 3) := by decide +kernel
theorem dX11_sortsThatFit_33 : decode cX11_sortsThatFit 33 = .ok (.iload 5, 2) := by decide +kernel
theorem dX11_sortsThatFit_35 : decode cX11_sortsThatFit 35 = .ok (.aload_n 0, 1) := by decide +kernel
theorem dX11_sortsThatFit_36 : decode cX11_sortsThatFit 36 = .ok (.getfield 69, 3) := by decide +kernel
theorem dX11_sortsThatFit_39 : decode cX11_sortsThatFit 39 = .ok (.iload_n 1, 1) := by decide +kernel
theorem dX11_sortsThatFit_40 : decode cX11_sortsThatFit 40 = .ok (.aload_n 2, 1) := by decide +kernel
theorem dX11_sortsThatFit_41 : decode cX11_sortsThatFit 41 = .ok (.getfield 97, 3) := by decide +kernel
theorem dX11_sortsThatFit_44 : decode cX11_sortsThatFit 44 = .ok (.iload_n 3, 1) := by decide +kernel
theorem dX11_sortsThatFit_45 : decode cX11_sortsThatFit 45 = .ok (.iload 4, 2) := by decide +kernel
theorem dX11_sortsThatFit_47 : decode cX11_sortsThatFit 47 = .ok (.invokevirtual 306, 3) := by decide +kernel
theorem dX11_sortsThatFit_50 : decode cX11_sortsThatFit 50 = .ok (.ifCond .eq 10, 3) := by decide +kernel
theorem dX11_sortsThatFit_53 : decode cX11_sortsThatFit 53 = .ok (.iconst 1, 1) := by decide +kernel
theorem dX11_sortsThatFit_54 : decode cX11_sortsThatFit 54 = .ok (.iload 6, 2) := by decide +kernel
theorem dX11_sortsThatFit_56 : decode cX11_sortsThatFit 56 = .ok (.ishl, 1) := by decide +kernel
theorem dX11_sortsThatFit_57 : decode cX11_sortsThatFit 57 = .ok (.goto 4, 3) := by decide +kernel
theorem dX11_sortsThatFit_60 : decode cX11_sortsThatFit 60 = .ok (.iconst 0, 1) := by decide +kernel
theorem dX11_sortsThatFit_61 : decode cX11_sortsThatFit 61 = .ok (.ior, 1) := by decide +kernel
theorem dX11_sortsThatFit_62 : decode cX11_sortsThatFit 62 = .ok (.istore 5, 2) := by decide +kernel
theorem dX11_sortsThatFit_64 : decode cX11_sortsThatFit 64 = .ok (.iinc 6 1, 3) := by decide +kernel
theorem dX11_sortsThatFit_67 : decode cX11_sortsThatFit 67 = .ok (.goto (-61), 3) := by decide +kernel
theorem dX11_sortsThatFit_70 : decode cX11_sortsThatFit 70 = .ok (.iload 5, 2) := by decide +kernel
theorem dX11_sortsThatFit_72 : decode cX11_sortsThatFit 72 = .ok (.ireturn, 1) := by decide +kernel
theorem dX11_ratesThatFit_0 : decode cX11_ratesThatFit 0 = .ok (.iconst 0, 1) := by decide +kernel
theorem dX11_ratesThatFit_1 : decode cX11_ratesThatFit 1 = .ok (.istore 5, 2) := by decide +kernel
theorem dX11_ratesThatFit_3 : decode cX11_ratesThatFit 3 = .ok (.iconst 1, 1) := by decide +kernel
theorem dX11_ratesThatFit_4 : decode cX11_ratesThatFit 4 = .ok (.istore 6, 2) := by decide +kernel
theorem dX11_ratesThatFit_6 : decode cX11_ratesThatFit 6 = .ok (.iload 6, 2) := by decide +kernel
theorem dX11_ratesThatFit_8 : decode cX11_ratesThatFit 8 = .ok (.bipush 20, 2) := by decide +kernel
theorem dX11_ratesThatFit_10 : decode cX11_ratesThatFit 10 = .ok (.if_icmp .gt 62, 3) := by decide +kernel
theorem dX11_ratesThatFit_13 : decode cX11_ratesThatFit 13 = .ok (.aload_n 0, 1) := by decide +kernel
theorem dX11_ratesThatFit_14 : decode cX11_ratesThatFit 14 = .ok (.getfield 69, 3) := by decide +kernel
theorem dX11_ratesThatFit_17 : decode cX11_ratesThatFit 17 = .ok (.aload_n 0, 1) := by decide +kernel
theorem dX11_ratesThatFit_18 : decode cX11_ratesThatFit 18 = .ok (.getfield 65, 3) := by decide +kernel
theorem dX11_ratesThatFit_21 : decode cX11_ratesThatFit 21 = .ok (.invokevirtual 140, 3) := by decide +kernel
theorem dX11_ratesThatFit_24 : decode cX11_ratesThatFit 24 = .ok (.aload_n 0, 1) := by decide +kernel
theorem dX11_ratesThatFit_25 : decode cX11_ratesThatFit 25 = .ok (.getfield 69, 3) := by decide +kernel
theorem dX11_ratesThatFit_28 : decode cX11_ratesThatFit 28 = .ok (.getfield 199, 3) := by decide +kernel
theorem dX11_ratesThatFit_31 : decode cX11_ratesThatFit 31 = .ok (.iload_n 1, 1) := by decide +kernel
theorem dX11_ratesThatFit_32 : decode cX11_ratesThatFit 32 = .ok (.iload 6, 2) := by decide +kernel
theorem dX11_ratesThatFit_34 : decode cX11_ratesThatFit 34 = .ok (.iastore, 1) := by decide +kernel
theorem dX11_ratesThatFit_35 : decode cX11_ratesThatFit 35 = .ok (.iload 5, 2) := by decide +kernel
theorem dX11_ratesThatFit_37 : decode cX11_ratesThatFit 37 = .ok (.aload_n 0, 1) := by decide +kernel
theorem dX11_ratesThatFit_38 : decode cX11_ratesThatFit 38 = .ok (.getfield 69, 3) := by decide +kernel
theorem dX11_ratesThatFit_41 : decode cX11_ratesThatFit 41 = .ok (.iload_n 1, 1) := by decide +kernel
theorem dX11_ratesThatFit_42 : decode cX11_ratesThatFit 42 = .ok (.aload_n 2, 1) := by decide +kernel
theorem dX11_ratesThatFit_43 : decode cX11_ratesThatFit 43 = .ok (.getfield 97, 3) := by decide +kernel
theorem dX11_ratesThatFit_46 : decode cX11_ratesThatFit 46 = .ok (.iload_n 3, 1) := by decide +kernel
theorem dX11_ratesThatFit_47 : decode cX11_ratesThatFit 47 = .ok (.iload 4, 2) := by decide +kernel
theorem dX11_ratesThatFit_49 : decode cX11_ratesThatFit 49 = .ok (.invokevirtual 306, 3) := by decide +kernel
theorem dX11_ratesThatFit_52 : decode cX11_ratesThatFit 52 = .ok (.ifCond .eq 10, 3) := by decide +kernel
theorem dX11_ratesThatFit_55 : decode cX11_ratesThatFit 55 = .ok (.iconst 1, 1) := by decide +kernel
theorem dX11_ratesThatFit_56 : decode cX11_ratesThatFit 56 = .ok (.iload 6, 2) := by decide +kernel
theorem dX11_ratesThatFit_58 : decode cX11_ratesThatFit 58 = .ok (.ishl, 1) := by decide +kernel
theorem dX11_ratesThatFit_59 : decode cX11_ratesThatFit 59 = .ok (.goto 4, 3) := by decide +kernel
theorem dX11_ratesThatFit_62 : decode cX11_ratesThatFit 62 = .ok (.iconst 0, 1) := by decide +kernel
theorem dX11_ratesThatFit_63 : decode cX11_ratesThatFit 63 = .ok (.ior, 1) := by decide +kernel
theorem dX11_ratesThatFit_64 : decode cX11_ratesThatFit 64 = .ok (.istore 5, 2) := by decide +kernel
theorem dX11_ratesThatFit_66 : decode cX11_ratesThatFit 66 = .ok (.iinc 6 1, 3) := by decide +kernel
theorem dX11_ratesThatFit_69 : decode cX11_ratesThatFit 69 = .ok (.goto (-63), 3) := by decide +kernel
theorem dX11_ratesThatFit_72 : decode cX11_ratesThatFit 72 = .ok (.iload 5, 2) := by decide +kernel
theorem dX11_ratesThatFit_74 : decode cX11_ratesThatFit 74 = .ok (.ireturn, 1) := by decide +kernel
theorem dX11_heatsThatFit_0 : decode cX11_heatsThatFit 0 = .ok (.iconst 0, 1) := by decide +kernel
theorem dX11_heatsThatFit_1 : decode cX11_heatsThatFit 1 = .ok (.istore 5, 2) := by decide +kernel
theorem dX11_heatsThatFit_3 : decode cX11_heatsThatFit 3 = .ok (.iconst 0, 1) := by decide +kernel
theorem dX11_heatsThatFit_4 : decode cX11_heatsThatFit 4 = .ok (.istore 6, 2) := by decide +kernel
theorem dX11_heatsThatFit_6 : decode cX11_heatsThatFit 6 = .ok (.iload 6, 2) := by decide +kernel
theorem dX11_heatsThatFit_8 : decode cX11_heatsThatFit 8 = .ok (.bipush 10, 2) := by decide +kernel
theorem dX11_heatsThatFit_10 : decode cX11_heatsThatFit 10 = .ok (.if_icmp .ge 62, 3) := by decide +kernel
theorem dX11_heatsThatFit_13 : decode cX11_heatsThatFit 13 = .ok (.aload_n 0, 1) := by decide +kernel
theorem dX11_heatsThatFit_14 : decode cX11_heatsThatFit 14 = .ok (.getfield 69, 3) := by decide +kernel
theorem dX11_heatsThatFit_17 : decode cX11_heatsThatFit 17 = .ok (.aload_n 0, 1) := by decide +kernel
theorem dX11_heatsThatFit_18 : decode cX11_heatsThatFit 18 = .ok (.getfield 65, 3) := by decide +kernel
theorem dX11_heatsThatFit_21 : decode cX11_heatsThatFit 21 = .ok (.invokevirtual 140, 3) := by decide +kernel
theorem dX11_heatsThatFit_24 : decode cX11_heatsThatFit 24 = .ok (.aload_n 0, 1) := by decide +kernel
theorem dX11_heatsThatFit_25 : decode cX11_heatsThatFit 25 = .ok (.getfield 69, 3) := by decide +kernel
theorem dX11_heatsThatFit_28 : decode cX11_heatsThatFit 28 = .ok (.getfield 208, 3) := by decide +kernel
theorem dX11_heatsThatFit_31 : decode cX11_heatsThatFit 31 = .ok (.iload_n 1, 1) := by decide +kernel
theorem dX11_heatsThatFit_32 : decode cX11_heatsThatFit 32 = .ok (.iload 6, 2) := by decide +kernel
theorem dX11_heatsThatFit_34 : decode cX11_heatsThatFit 34 = .ok (.iastore, 1) := by decide +kernel
theorem dX11_heatsThatFit_35 : decode cX11_heatsThatFit 35 = .ok (.iload 5, 2) := by decide +kernel
theorem dX11_heatsThatFit_37 : decode cX11_heatsThatFit 37 = .ok (.aload_n 0, 1) := by decide +kernel
theorem dX11_heatsThatFit_38 : decode cX11_heatsThatFit 38 = .ok (.getfield 69, 3) := by decide +kernel
theorem dX11_heatsThatFit_41 : decode cX11_heatsThatFit 41 = .ok (.iload_n 1, 1) := by decide +kernel
theorem dX11_heatsThatFit_42 : decode cX11_heatsThatFit 42 = .ok (.aload_n 2, 1) := by decide +kernel
theorem dX11_heatsThatFit_43 : decode cX11_heatsThatFit 43 = .ok (.getfield 97, 3) := by decide +kernel
theorem dX11_heatsThatFit_46 : decode cX11_heatsThatFit 46 = .ok (.iload_n 3, 1) := by decide +kernel
theorem dX11_heatsThatFit_47 : decode cX11_heatsThatFit 47 = .ok (.iload 4, 2) := by decide +kernel
theorem dX11_heatsThatFit_49 : decode cX11_heatsThatFit 49 = .ok (.invokevirtual 306, 3) := by decide +kernel
theorem dX11_heatsThatFit_52 : decode cX11_heatsThatFit 52 = .ok (.ifCond .eq 10, 3) := by decide +kernel
theorem dX11_heatsThatFit_55 : decode cX11_heatsThatFit 55 = .ok (.iconst 1, 1) := by decide +kernel
theorem dX11_heatsThatFit_56 : decode cX11_heatsThatFit 56 = .ok (.iload 6, 2) := by decide +kernel
theorem dX11_heatsThatFit_58 : decode cX11_heatsThatFit 58 = .ok (.ishl, 1) := by decide +kernel
theorem dX11_heatsThatFit_59 : decode cX11_heatsThatFit 59 = .ok (.goto 4, 3) := by decide +kernel
theorem dX11_heatsThatFit_62 : decode cX11_heatsThatFit 62 = .ok (.iconst 0, 1) := by decide +kernel
theorem dX11_heatsThatFit_63 : decode cX11_heatsThatFit 63 = .ok (.ior, 1) := by decide +kernel
theorem dX11_heatsThatFit_64 : decode cX11_heatsThatFit 64 = .ok (.istore 5, 2) := by decide +kernel
theorem dX11_heatsThatFit_66 : decode cX11_heatsThatFit 66 = .ok (.iinc 6 1, 3) := by decide +kernel
theorem dX11_heatsThatFit_69 : decode cX11_heatsThatFit 69 = .ok (.goto (-63), 3) := by decide +kernel
theorem dX11_heatsThatFit_72 : decode cX11_heatsThatFit 72 = .ok (.iload 5, 2) := by decide +kernel
theorem dX11_heatsThatFit_74 : decode cX11_heatsThatFit 74 = .ok (.ireturn, 1) := by decide +kernel
theorem dX11_mainsThatFit_0 : decode cX11_mainsThatFit 0 = .ok (.iconst 0, 1) := by decide +kernel
theorem dX11_mainsThatFit_1 : decode cX11_mainsThatFit 1 = .ok (.istore 6, 2) := by decide +kernel
theorem dX11_mainsThatFit_3 : decode cX11_mainsThatFit 3 = .ok (.ldc 238, 2) := by decide +kernel
theorem dX11_mainsThatFit_5 : decode cX11_mainsThatFit 5 = .ok (.istore 7, 2) := by decide +kernel
theorem dX11_mainsThatFit_7 : decode cX11_mainsThatFit 7 = .ok (.bipush 60, 2) := by decide +kernel
theorem dX11_mainsThatFit_9 : decode cX11_mainsThatFit 9 = .ok (.istore 8, 2) := by decide +kernel
theorem dX11_mainsThatFit_11 : decode cX11_mainsThatFit 11 = .ok (.iload 8, 2) := by decide +kernel
theorem dX11_mainsThatFit_13 : decode cX11_mainsThatFit 13 = .ok (.iconst 1, 1) := by decide +kernel
theorem dX11_mainsThatFit_14 : decode cX11_mainsThatFit 14 = .ok (.if_icmp .lt 54, 3) := by decide +kernel
theorem dX11_mainsThatFit_17 : decode cX11_mainsThatFit 17 = .ok (.aload_n 0, 1) := by decide +kernel
theorem dX11_mainsThatFit_18 : decode cX11_mainsThatFit 18 = .ok (.getfield 69, 3) := by decide +kernel
theorem dX11_mainsThatFit_21 : decode cX11_mainsThatFit 21 = .ok (.aload_n 0, 1) := by decide +kernel
theorem dX11_mainsThatFit_22 : decode cX11_mainsThatFit 22 = .ok (.getfield 65, 3) := by decide +kernel
theorem dX11_mainsThatFit_25 : decode cX11_mainsThatFit 25 = .ok (.invokevirtual 140, 3) := by decide +kernel
theorem dX11_mainsThatFit_28 : decode cX11_mainsThatFit 28 = .ok (.aload_n 0, 1) := by decide +kernel
theorem dX11_mainsThatFit_29 : decode cX11_mainsThatFit 29 = .ok (.getfield 69, 3) := by decide +kernel
theorem dX11_mainsThatFit_32 : decode cX11_mainsThatFit 32 = .ok (.iload 8, 2) := by decide +kernel
theorem dX11_mainsThatFit_34 : decode cX11_mainsThatFit 34 = .ok (.putfield 310, 3) := by decide +kernel
theorem dX11_mainsThatFit_37 : decode cX11_mainsThatFit 37 = .ok (.aload_n 0, 1) := by decide +kernel
theorem dX11_mainsThatFit_38 : decode cX11_mainsThatFit 38 = .ok (.getfield 69, 3) := by decide +kernel
theorem dX11_mainsThatFit_41 : decode cX11_mainsThatFit 41 = .ok (.iload_n 1, 1) := by decide +kernel
theorem dX11_mainsThatFit_42 : decode cX11_mainsThatFit 42 = .ok (.aload_n 2, 1) := by decide +kernel
theorem dX11_mainsThatFit_43 : decode cX11_mainsThatFit 43 = .ok (.getfield 97, 3) := by decide +kernel
theorem dX11_mainsThatFit_46 : decode cX11_mainsThatFit 46 = .ok (.iload_n 3, 1) := by decide +kernel
theorem dX11_mainsThatFit_47 : decode cX11_mainsThatFit 47 = .ok (.iload 4, 2) := by decide +kernel
theorem dX11_mainsThatFit_49 : decode cX11_mainsThatFit 49 = .ok (.invokevirtual 306, 3) := by decide +kernel
theorem dX11_mainsThatFit_52 : decode cX11_mainsThatFit 52 = .ok (.ifCond .eq 10, 3) := by decide +kernel
theorem dX11_mainsThatFit_55 : decode cX11_mainsThatFit 55 = .ok (.iinc 6 1, 3) := by decide +kernel
theorem dX11_mainsThatFit_58 : decode cX11_mainsThatFit 58 = .ok (.iload 8, 2) := by decide +kernel
theorem dX11_mainsThatFit_60 : decode cX11_mainsThatFit 60 = .ok (.istore 7, 2) := by decide +kernel
theorem dX11_mainsThatFit_62 : decode cX11_mainsThatFit 62 = .ok (.iinc 8 (-1), 3) := by decide +kernel
theorem dX11_mainsThatFit_65 : decode cX11_mainsThatFit 65 = .ok (.goto (-54), 3) := by decide +kernel
theorem dX11_mainsThatFit_68 : decode cX11_mainsThatFit 68 = .ok (.iload 5, 2) := by decide +kernel
theorem dX11_mainsThatFit_70 : decode cX11_mainsThatFit 70 = .ok (.ifCond .eq 8, 3) := by decide +kernel
theorem dX11_mainsThatFit_73 : decode cX11_mainsThatFit 73 = .ok (.iload 7, 2) := by decide +kernel
theorem dX11_mainsThatFit_75 : decode cX11_mainsThatFit 75 = .ok (.goto 5, 3) := by decide +kernel
theorem dX11_mainsThatFit_78 : decode cX11_mainsThatFit 78 = .ok (.iload 6, 2) := by decide +kernel
theorem dX11_mainsThatFit_80 : decode cX11_mainsThatFit 80 = .ok (.ireturn, 1) := by decide +kernel
theorem dX11_fits_0 : decode cX11_fits 0 = .ok (.aload_n 0, 1) := by decide +kernel
theorem dX11_fits_1 : decode cX11_fits 1 = .ok (.iload_n 1, 1) := by decide +kernel
theorem dX11_fits_2 : decode cX11_fits 2 = .ok (.invokevirtual 180, 3) := by decide +kernel
theorem dX11_fits_5 : decode cX11_fits 5 = .ok (.ifCond .ne 34, 3) := by decide +kernel
theorem dX11_fits_8 : decode cX11_fits 8 = .ok (.iload_n 2, 1) := by decide +kernel
theorem dX11_fits_9 : decode cX11_fits 9 = .ok (.invokestatic 73, 3) := by decide +kernel
theorem dX11_fits_12 : decode cX11_fits 12 = .ok (.ifCond .ne 27, 3) := by decide +kernel
theorem dX11_fits_15 : decode cX11_fits 15 = .ok (.iload 4, 2) := by decide +kernel
theorem dX11_fits_17 : decode cX11_fits 17 = .ok (.iconst 1, 1) := by decide +kernel
theorem dX11_fits_18 : decode cX11_fits 18 = .ok (.if_icmp .lt 21, 3) := by decide +kernel
theorem dX11_fits_21 : decode cX11_fits 21 = .ok (.iload 4, 2) := by decide +kernel
theorem dX11_fits_23 : decode cX11_fits 23 = .ok (.bipush 12, 2) := by decide +kernel
theorem dX11_fits_25 : decode cX11_fits 25 = .ok (.if_icmp .gt 14, 3) := by decide +kernel
theorem dX11_fits_28 : decode cX11_fits 28 = .ok (.iload 5, 2) := by decide +kernel
theorem dX11_fits_30 : decode cX11_fits 30 = .ok (.ifCond .lt 9, 3) := by decide +kernel
theorem dX11_fits_33 : decode cX11_fits 33 = .ok (.iload 5, 2) := by decide +kernel
theorem dX11_fits_35 : decode cX11_fits 35 = .ok (.iconst 4, 1) := by decide +kernel
theorem dX11_fits_36 : decode cX11_fits 36 = .ok (.if_icmp .le 6, 3) := by decide +kernel
theorem dX11_fits_39 : decode cX11_fits 39 = .ok (.ldc 77, 2) := by decide +kernel
theorem dX11_fits_41 : decode cX11_fits 41 = .ok (.ireturn, 1) := by decide +kernel
theorem dX11_fits_42 : decode cX11_fits 42 = .ok (.aload_n 0, 1) := by decide +kernel
theorem dX11_fits_43 : decode cX11_fits 43 = .ok (.getfield 11, 3) := by decide +kernel
theorem dX11_fits_46 : decode cX11_fits 46 = .ok (.iload_n 2, 1) := by decide +kernel
theorem dX11_fits_47 : decode cX11_fits 47 = .ok (.aaload, 1) := by decide +kernel
theorem dX11_fits_48 : decode cX11_fits 48 = .ok (.astore 6, 2) := by decide +kernel
theorem dX11_fits_50 : decode cX11_fits 50 = .ok (.aload 6, 2) := by decide +kernel
theorem dX11_fits_52 : decode cX11_fits 52 = .ok (.invokevirtual 89, 3) := by decide +kernel
theorem dX11_fits_55 : decode cX11_fits 55 = .ok (.ifCond .eq 9, 3) := by decide +kernel
theorem dX11_fits_58 : decode cX11_fits 58 = .ok (.aload_n 0, 1) := by decide +kernel
theorem dX11_fits_59 : decode cX11_fits 59 = .ok (.iconst 1, 1) := by decide +kernel
theorem dX11_fits_60 : decode cX11_fits 60 = .ok (.invokevirtual 78, 3) := by decide +kernel
theorem dX11_fits_63 : decode cX11_fits 63 = .ok (.ireturn, 1) := by decide +kernel
theorem dX11_fits_64 : decode cX11_fits 64 = .ok (.aload 6, 2) := by decide +kernel
theorem dX11_fits_66 : decode cX11_fits 66 = .ok (.iload_n 3, 1) := by decide +kernel
theorem dX11_fits_67 : decode cX11_fits 67 = .ok (.iload 4, 2) := by decide +kernel
theorem dX11_fits_69 : decode cX11_fits 69 = .ok (.invokevirtual 93, 3) := by decide +kernel
theorem dX11_fits_72 : decode cX11_fits 72 = .ok (.ifCond .ne 9, 3) := by decide +kernel
theorem dX11_fits_75 : decode cX11_fits 75 = .ok (.aload_n 0, 1) := by decide +kernel
theorem dX11_fits_76 : decode cX11_fits 76 = .ok (.iconst 2, 1) := by decide +kernel
theorem dX11_fits_77 : decode cX11_fits 77 = .ok (.invokevirtual 78, 3) := by decide +kernel
theorem dX11_fits_80 : decode cX11_fits 80 = .ok (.ireturn, 1) := by decide +kernel
theorem dX11_fits_81 : decode cX11_fits 81 = .ok (.iload 5, 2) := by decide +kernel
theorem dX11_fits_83 : decode cX11_fits 83 = .ok (.tableswitch 70 0 2 #[25, 40, 55], 25) := by decide +kernel
theorem dX11_fits_108 : decode cX11_fits 108 = .ok (.aload_n 0, 1) := by decide +kernel
theorem dX11_fits_109 : decode cX11_fits 109 = .ok (.aload_n 0, 1) := by decide +kernel
theorem dX11_fits_110 : decode cX11_fits 110 = .ok (.iload_n 1, 1) := by decide +kernel
theorem dX11_fits_111 : decode cX11_fits 111 = .ok (.aload 6, 2) := by decide +kernel
theorem dX11_fits_113 : decode cX11_fits 113 = .ok (.iload_n 3, 1) := by decide +kernel
theorem dX11_fits_114 : decode cX11_fits 114 = .ok (.iload 4, 2) := by decide +kernel
theorem dX11_fits_116 : decode cX11_fits 116 = .ok (.invokevirtual 267, 3) := by decide +kernel
theorem dX11_fits_119 : decode cX11_fits 119 = .ok (.invokevirtual 86, 3) := by decide +kernel
theorem dX11_fits_122 : decode cX11_fits 122 = .ok (.ireturn, 1) := by decide +kernel
theorem dX11_fits_123 : decode cX11_fits 123 = .ok (.aload_n 0, 1) := by decide +kernel
theorem dX11_fits_124 : decode cX11_fits 124 = .ok (.aload_n 0, 1) := by decide +kernel
theorem dX11_fits_125 : decode cX11_fits 125 = .ok (.iload_n 1, 1) := by decide +kernel
theorem dX11_fits_126 : decode cX11_fits 126 = .ok (.aload 6, 2) := by decide +kernel
theorem dX11_fits_128 : decode cX11_fits 128 = .ok (.iload_n 3, 1) := by decide +kernel
theorem dX11_fits_129 : decode cX11_fits 129 = .ok (.iload 4, 2) := by decide +kernel
theorem dX11_fits_131 : decode cX11_fits 131 = .ok (.invokevirtual 271, 3) := by decide +kernel
theorem dX11_fits_134 : decode cX11_fits 134 = .ok (.invokevirtual 86, 3) := by decide +kernel
theorem dX11_fits_137 : decode cX11_fits 137 = .ok (.ireturn, 1) := by decide +kernel
theorem dX11_fits_138 : decode cX11_fits 138 = .ok (.aload_n 0, 1) := by decide +kernel
theorem dX11_fits_139 : decode cX11_fits 139 = .ok (.aload_n 0, 1) := by decide +kernel
theorem dX11_fits_140 : decode cX11_fits 140 = .ok (.iload_n 1, 1) := by decide +kernel
theorem dX11_fits_141 : decode cX11_fits 141 = .ok (.aload 6, 2) := by decide +kernel
theorem dX11_fits_143 : decode cX11_fits 143 = .ok (.iload_n 3, 1) := by decide +kernel
theorem dX11_fits_144 : decode cX11_fits 144 = .ok (.iload 4, 2) := by decide +kernel
theorem dX11_fits_146 : decode cX11_fits 146 = .ok (.invokevirtual 274, 3) := by decide +kernel
theorem dX11_fits_149 : decode cX11_fits 149 = .ok (.invokevirtual 86, 3) := by decide +kernel
theorem dX11_fits_152 : decode cX11_fits 152 = .ok (.ireturn, 1) := by decide +kernel
theorem dX11_fits_153 : decode cX11_fits 153 = .ok (.aload_n 0, 1) := by decide +kernel
theorem dX11_fits_154 : decode cX11_fits 154 = .ok (.aload_n 0, 1) := by decide +kernel
theorem dX11_fits_155 : decode cX11_fits 155 = .ok (.iload_n 1, 1) := by decide +kernel
theorem dX11_fits_156 : decode cX11_fits 156 = .ok (.aload 6, 2) := by decide +kernel
theorem dX11_fits_158 : decode cX11_fits 158 = .ok (.iload_n 3, 1) := by decide +kernel
theorem dX11_fits_159 : decode cX11_fits 159 = .ok (.iload 4, 2) := by decide +kernel
theorem dX11_fits_161 : decode cX11_fits 161 = .ok (.iload 5, 2) := by decide +kernel
theorem dX11_fits_163 : decode cX11_fits 163 = .ok (.iconst 4, 1) := by decide +kernel
theorem dX11_fits_164 : decode cX11_fits 164 = .ok (.if_icmp .ne 7, 3) := by decide +kernel
theorem dX11_fits_167 : decode cX11_fits 167 = .ok (.iconst 1, 1) := by decide +kernel
theorem dX11_fits_168 : decode cX11_fits 168 = .ok (.goto 4, 3) := by decide +kernel
theorem dX11_fits_171 : decode cX11_fits 171 = .ok (.iconst 0, 1) := by decide +kernel
theorem dX11_fits_172 : decode cX11_fits 172 = .ok (.invokevirtual 277, 3) := by decide +kernel
theorem dX11_fits_175 : decode cX11_fits 175 = .ok (.invokevirtual 86, 3) := by decide +kernel
theorem dX11_fits_178 : decode cX11_fits 178 = .ok (.ireturn, 1) := by decide +kernel
theorem dX11_weightOf_0 : decode cX11_weightOf 0 = .ok (.iconst 1, 1) := by decide +kernel
theorem dX11_weightOf_1 : decode cX11_weightOf 1 = .ok (.istore_n 3, 1) := by decide +kernel
theorem dX11_weightOf_2 : decode cX11_weightOf 2 = .ok (.iconst 0, 1) := by decide +kernel
theorem dX11_weightOf_3 : decode cX11_weightOf 3 = .ok (.istore 4, 2) := by decide +kernel
theorem dX11_weightOf_5 : decode cX11_weightOf 5 = .ok (.iload 4, 2) := by decide +kernel
theorem dX11_weightOf_7 : decode cX11_weightOf 7 = .ok (.aload_n 0, 1) := by decide +kernel
theorem dX11_weightOf_8 : decode cX11_weightOf 8 = .ok (.getfield 65, 3) := by decide +kernel
theorem dX11_weightOf_11 : decode cX11_weightOf 11 = .ok (.getfield 229, 3) := by decide +kernel
theorem dX11_weightOf_14 : decode cX11_weightOf 14 = .ok (.if_icmp .ge 42, 3) := by decide +kernel
theorem dX11_weightOf_17 : decode cX11_weightOf 17 = .ok (.aload_n 0, 1) := by decide +kernel
theorem dX11_weightOf_18 : decode cX11_weightOf 18 = .ok (.getfield 65, 3) := by decide +kernel
theorem dX11_weightOf_21 : decode cX11_weightOf 21 = .ok (.iload 4, 2) := by decide +kernel
theorem dX11_weightOf_23 : decode cX11_weightOf 23 = .ok (.invokevirtual 170, 3) := by decide +kernel
theorem dX11_weightOf_26 : decode cX11_weightOf 26 = .ok (.ifCond .eq 24, 3) := by decide +kernel
theorem dX11_weightOf_29 : decode cX11_weightOf 29 = .ok (.iload_n 3, 1) := by decide +kernel
theorem dX11_weightOf_30 : decode cX11_weightOf 30 = .ok (.iload_n 1, 1) := by decide +kernel
theorem dX11_weightOf_31 : decode cX11_weightOf 31 = .ok (.iload 4, 2) := by decide +kernel
theorem dX11_weightOf_33 : decode cX11_weightOf 33 = .ok (.ishr, 1) := by decide +kernel
theorem dX11_weightOf_34 : decode cX11_weightOf 34 = .ok (.iconst 1, 1) := by decide +kernel
theorem dX11_weightOf_35 : decode cX11_weightOf 35 = .ok (.iand, 1) := by decide +kernel
theorem dX11_weightOf_36 : decode cX11_weightOf 36 = .ok (.iconst 1, 1) := by decide +kernel
theorem dX11_weightOf_37 : decode cX11_weightOf 37 = .ok (.if_icmp .ne 7, 3) := by decide +kernel
theorem dX11_weightOf_40 : decode cX11_weightOf 40 = .ok (.iload_n 2, 1) := by decide +kernel
theorem dX11_weightOf_41 : decode cX11_weightOf 41 = .ok (.goto 7, 3) := by decide +kernel
theorem dX11_weightOf_44 : decode cX11_weightOf 44 = .ok (.bipush 10, 2) := by decide +kernel
theorem dX11_weightOf_46 : decode cX11_weightOf 46 = .ok (.iload_n 2, 1) := by decide +kernel
theorem dX11_weightOf_47 : decode cX11_weightOf 47 = .ok (.isub, 1) := by decide +kernel
theorem dX11_weightOf_48 : decode cX11_weightOf 48 = .ok (.imul, 1) := by decide +kernel
theorem dX11_weightOf_49 : decode cX11_weightOf 49 = .ok (.istore_n 3, 1) := by decide +kernel
theorem dX11_weightOf_50 : decode cX11_weightOf 50 = .ok (.iinc 4 1, 3) := by decide +kernel
theorem dX11_weightOf_53 : decode cX11_weightOf 53 = .ok (.goto (-48), 3) := by decide +kernel
theorem dX11_weightOf_56 : decode cX11_weightOf 56 = .ok (.iload_n 3, 1) := by decide +kernel
theorem dX11_weightOf_57 : decode cX11_weightOf 57 = .ok (.ireturn, 1) := by decide +kernel
theorem dX11_isLiveWithout_0 : decode cX11_isLiveWithout 0 = .ok (.aload_n 0, 1) := by decide +kernel
theorem dX11_isLiveWithout_1 : decode cX11_isLiveWithout 1 = .ok (.getfield 69, 3) := by decide +kernel
theorem dX11_isLiveWithout_4 : decode cX11_isLiveWithout 4 = .ok (.aload_n 0, 1) := by decide +kernel
theorem dX11_isLiveWithout_5 : decode cX11_isLiveWithout 5 = .ok (.getfield 65, 3) := by decide +kernel
theorem dX11_isLiveWithout_8 : decode cX11_isLiveWithout 8 = .ok (.invokevirtual 140, 3) := by decide +kernel
theorem dX11_isLiveWithout_11 : decode cX11_isLiveWithout 11 = .ok (.aload_n 0, 1) := by decide +kernel
theorem dX11_isLiveWithout_12 : decode cX11_isLiveWithout 12 = .ok (.getfield 69, 3) := by decide +kernel
theorem dX11_isLiveWithout_15 : decode cX11_isLiveWithout 15 = .ok (.dup, 1) := by decide +kernel
theorem dX11_isLiveWithout_16 : decode cX11_isLiveWithout 16 = .ok (.getfield 239, 3) := by decide +kernel
theorem dX11_isLiveWithout_19 : decode cX11_isLiveWithout 19 = .ok (.iload_n 1, 1) := by decide +kernel
theorem dX11_isLiveWithout_20 : decode cX11_isLiveWithout 20 = .ok (.iconst (-1), 1) := by decide +kernel
theorem dX11_isLiveWithout_21 : decode cX11_isLiveWithout 21 = .ok (.ixor, 1) := by decide +kernel
theorem dX11_isLiveWithout_22 : decode cX11_isLiveWithout 22 = .ok (.iand, 1) := by decide +kernel
theorem dX11_isLiveWithout_23 : decode cX11_isLiveWithout 23 = .ok (.putfield 239, 3) := by decide +kernel
theorem dX11_isLiveWithout_26 : decode cX11_isLiveWithout 26 = .ok (.iconst 0, 1) := by decide +kernel
theorem dX11_isLiveWithout_27 : decode cX11_isLiveWithout 27 = .ok (.istore 4, 2) := by decide +kernel
theorem dX11_isLiveWithout_29 : decode cX11_isLiveWithout 29 = .ok (.iload 4, 2) := by decide +kernel
theorem dX11_isLiveWithout_31 : decode cX11_isLiveWithout 31 = .ok (.iload_n 3, 1) := by decide +kernel
theorem dX11_isLiveWithout_32 : decode cX11_isLiveWithout 32 = .ok (.if_icmp .ge 16, 3) := by decide +kernel
theorem dX11_isLiveWithout_35 : decode cX11_isLiveWithout 35 = .ok (.aload_n 0, 1) := by decide +kernel
theorem dX11_isLiveWithout_36 : decode cX11_isLiveWithout 36 = .ok (.getfield 69, 3) := by decide +kernel
theorem dX11_isLiveWithout_39 : decode cX11_isLiveWithout 39 = .ok (.invokevirtual 160, 3) := by decide +kernel
theorem dX11_isLiveWithout_42 : decode cX11_isLiveWithout 42 = .ok (.iinc 4 1, 3) := by decide +kernel
theorem dX11_isLiveWithout_45 : decode cX11_isLiveWithout 45 = .ok (.goto (-16), 3) := by decide +kernel
theorem dX11_isLiveWithout_48 : decode cX11_isLiveWithout 48 = .ok (.aload_n 0, 1) := by decide +kernel
theorem dX11_isLiveWithout_49 : decode cX11_isLiveWithout 49 = .ok (.getfield 69, 3) := by decide +kernel
theorem dX11_isLiveWithout_52 : decode cX11_isLiveWithout 52 = .ok (.iload_n 2, 1) := by decide +kernel
theorem dX11_isLiveWithout_53 : decode cX11_isLiveWithout 53 = .ok (.invokevirtual 214, 3) := by decide +kernel
theorem dX11_isLiveWithout_56 : decode cX11_isLiveWithout 56 = .ok (.ireturn, 1) := by decide +kernel
theorem dX11_commonDivisor_0 : decode cX11_commonDivisor 0 = .ok (.iconst 0, 1) := by decide +kernel
theorem dX11_commonDivisor_1 : decode cX11_commonDivisor 1 = .ok (.istore_n 2, 1) := by decide +kernel
theorem dX11_commonDivisor_2 : decode cX11_commonDivisor 2 = .ok (.iload_n 2, 1) := by decide +kernel
theorem dX11_commonDivisor_3 : decode cX11_commonDivisor 3 = .ok (.bipush 100, 2) := by decide +kernel
theorem dX11_commonDivisor_5 : decode cX11_commonDivisor 5 = .ok (.if_icmp .ge 21, 3) := by decide +kernel
theorem dX11_commonDivisor_8 : decode cX11_commonDivisor 8 = .ok (.iload_n 1, 1) := by decide +kernel
theorem dX11_commonDivisor_9 : decode cX11_commonDivisor 9 = .ok (.ifCond .le 17, 3) := by decide +kernel
theorem dX11_commonDivisor_12 : decode cX11_commonDivisor 12 = .ok (.iload_n 0, 1) := by decide +kernel
theorem dX11_commonDivisor_13 : decode cX11_commonDivisor 13 = .ok (.iload_n 1, 1) := by decide +kernel
theorem dX11_commonDivisor_14 : decode cX11_commonDivisor 14 = .ok (.irem, 1) := by decide +kernel
theorem dX11_commonDivisor_15 : decode cX11_commonDivisor 15 = .ok (.istore_n 3, 1) := by decide +kernel
theorem dX11_commonDivisor_16 : decode cX11_commonDivisor 16 = .ok (.iload_n 1, 1) := by decide +kernel
theorem dX11_commonDivisor_17 : decode cX11_commonDivisor 17 = .ok (.istore_n 0, 1) := by decide +kernel
theorem dX11_commonDivisor_18 : decode cX11_commonDivisor 18 = .ok (.iload_n 3, 1) := by decide +kernel
theorem dX11_commonDivisor_19 : decode cX11_commonDivisor 19 = .ok (.istore_n 1, 1) := by decide +kernel
theorem dX11_commonDivisor_20 : decode cX11_commonDivisor 20 = .ok (.iinc 2 1, 3) := by decide +kernel
theorem dX11_commonDivisor_23 : decode cX11_commonDivisor 23 = .ok (.goto (-21), 3) := by decide +kernel
theorem dX11_commonDivisor_26 : decode cX11_commonDivisor 26 = .ok (.iload_n 0, 1) := by decide +kernel
theorem dX11_commonDivisor_27 : decode cX11_commonDivisor 27 = .ok (.ireturn, 1) := by decide +kernel
theorem dX11_chance_0 : decode cX11_chance 0 = .ok (.aload_n 0, 1) := by decide +kernel
theorem dX11_chance_1 : decode cX11_chance 1 = .ok (.iload_n 1, 1) := by decide +kernel
theorem dX11_chance_2 : decode cX11_chance 2 = .ok (.invokevirtual 180, 3) := by decide +kernel
theorem dX11_chance_5 : decode cX11_chance 5 = .ok (.ifCond .ne 34, 3) := by decide +kernel
theorem dX11_chance_8 : decode cX11_chance 8 = .ok (.iload_n 2, 1) := by decide +kernel
theorem dX11_chance_9 : decode cX11_chance 9 = .ok (.ifCond .lt 30, 3) := by decide +kernel
theorem dX11_chance_12 : decode cX11_chance 12 = .ok (.iload_n 2, 1) := by decide +kernel
theorem dX11_chance_13 : decode cX11_chance 13 = .ok (.bipush 60, 2) := by decide +kernel
theorem dX11_chance_15 : decode cX11_chance 15 = .ok (.if_icmp .gt 24, 3) := by decide +kernel
theorem dX11_chance_18 : decode cX11_chance 18 = .ok (.iload_n 3, 1) := by decide +kernel
theorem dX11_chance_19 : decode cX11_chance 19 = .ok (.ifCond .lt 20, 3) := by decide +kernel
theorem dX11_chance_22 : decode cX11_chance 22 = .ok (.iload_n 3, 1) := by decide +kernel
theorem dX11_chance_23 : decode cX11_chance 23 = .ok (.bipush 10, 2) := by decide +kernel
theorem dX11_chance_25 : decode cX11_chance 25 = .ok (.if_icmp .gt 14, 3) := by decide +kernel
theorem dX11_chance_28 : decode cX11_chance 28 = .ok (.iload 4, 2) := by decide +kernel
theorem dX11_chance_30 : decode cX11_chance 30 = .ok (.ifCond .lt 9, 3) := by decide +kernel
theorem dX11_chance_33 : decode cX11_chance 33 = .ok (.iload 4, 2) := by decide +kernel
theorem dX11_chance_35 : decode cX11_chance 35 = .ok (.iconst 1, 1) := by decide +kernel
theorem dX11_chance_36 : decode cX11_chance 36 = .ok (.if_icmp .le 6, 3) := by decide +kernel
theorem dX11_chance_39 : decode cX11_chance 39 = .ok (.ldc 77, 2) := by decide +kernel
theorem dX11_chance_41 : decode cX11_chance 41 = .ok (.ireturn, 1) := by decide +kernel
theorem dX11_chance_42 : decode cX11_chance 42 = .ok (.iconst 0, 1) := by decide +kernel
theorem dX11_chance_43 : decode cX11_chance 43 = .ok (.istore 5, 2) := by decide +kernel
theorem dX11_chance_45 : decode cX11_chance 45 = .ok (.iconst 1, 1) := by decide +kernel
theorem dX11_chance_46 : decode cX11_chance 46 = .ok (.istore 6, 2) := by decide +kernel
theorem dX11_chance_48 : decode cX11_chance 48 = .ok (.iconst 0, 1) := by decide +kernel
theorem dX11_chance_49 : decode cX11_chance 49 = .ok (.istore 7, 2) := by decide +kernel
theorem dX11_chance_51 : decode cX11_chance 51 = .ok (.iload 7, 2) := by decide +kernel
theorem dX11_chance_53 : decode cX11_chance 53 = .ok (.aload_n 0, 1) := by decide +kernel
theorem dX11_chance_54 : decode cX11_chance 54 = .ok (.getfield 65, 3) := by decide +kernel
theorem dX11_chance_57 : decode cX11_chance 57 = .ok (.getfield 239, 3) := by decide +kernel
theorem dX11_chance_60 : decode cX11_chance 60 = .ok (.invokestatic 242, 3) := by decide +kernel
theorem dX11_chance_63 : decode cX11_chance 63 = .ok (.if_icmp .ge 16, 3) := by decide +kernel
theorem dX11_chance_66 : decode cX11_chance 66 = .ok (.iload 6, 2) := by decide +kernel
theorem dX11_chance_68 : decode cX11_chance 68 = .ok (.bipush 10, 2) := by decide +kernel
theorem dX11_chance_70 : decode cX11_chance 70 = .ok (.imul, 1) := by decide +kernel
theorem dX11_chance_71 : decode cX11_chance 71 = .ok (.istore 6, 2) := by decide +kernel
theorem dX11_chance_73 : decode cX11_chance 73 = .ok (.iinc 7 1, 3) := by decide +kernel
theorem dX11_chance_76 : decode cX11_chance 76 = .ok (.goto (-25), 3) := by decide +kernel
theorem dX11_chance_79 : decode cX11_chance 79 = .ok (.iconst 0, 1) := by decide +kernel
theorem dX11_chance_80 : decode cX11_chance 80 = .ok (.istore 7, 2) := by decide +kernel
theorem dX11_chance_82 : decode cX11_chance 82 = .ok (.iload 7, 2) := by decide +kernel
theorem dX11_chance_84 : decode cX11_chance 84 = .ok (.bipush 64, 2) := by decide +kernel
theorem dX11_chance_86 : decode cX11_chance 86 = .ok (.if_icmp .ge 60, 3) := by decide +kernel
theorem dX11_chance_89 : decode cX11_chance 89 = .ok (.iload 7, 2) := by decide +kernel
theorem dX11_chance_91 : decode cX11_chance 91 = .ok (.aload_n 0, 1) := by decide +kernel
theorem dX11_chance_92 : decode cX11_chance 92 = .ok (.getfield 65, 3) := by decide +kernel
theorem dX11_chance_95 : decode cX11_chance 95 = .ok (.getfield 239, 3) := by decide +kernel
theorem dX11_chance_98 : decode cX11_chance 98 = .ok (.iconst (-1), 1) := by decide +kernel
theorem dX11_chance_99 : decode cX11_chance 99 = .ok (.ixor, 1) := by decide +kernel
theorem dX11_chance_100 : decode cX11_chance 100 = .ok (.iand, 1) := by decide +kernel
theorem dX11_chance_101 : decode cX11_chance 101 = .ok (.ifCond .ne 13, 3) := by decide +kernel
theorem dX11_chance_104 : decode cX11_chance 104 = .ok (.aload_n 0, 1) := by decide +kernel
theorem dX11_chance_105 : decode cX11_chance 105 = .ok (.iload 7, 2) := by decide +kernel
theorem dX11_chance_107 : decode cX11_chance 107 = .ok (.iload_n 3, 1) := by decide +kernel
theorem dX11_chance_108 : decode cX11_chance 108 = .ok (.invokevirtual 281, 3) := by decide +kernel
theorem dX11_chance_111 : decode cX11_chance 111 = .ok (.goto 4, 3) := by decide +kernel
theorem dX11_chance_114 : decode cX11_chance 114 = .ok (.iconst 0, 1) := by decide +kernel
theorem dX11_chance_115 : decode cX11_chance 115 = .ok (.istore 8, 2) := by decide +kernel
theorem dX11_chance_117 : decode cX11_chance 117 = .ok (.iload 8, 2) := by decide +kernel
theorem dX11_chance_119 : decode cX11_chance 119 = .ok (.ifCond .le 21, 3) := by decide +kernel
theorem dX11_chance_122 : decode cX11_chance 122 = .ok (.aload_n 0, 1) := by decide +kernel
theorem dX11_chance_123 : decode cX11_chance 123 = .ok (.iload 7, 2) := by decide +kernel
theorem dX11_chance_125 : decode cX11_chance 125 = .ok (.iload_n 1, 1) := by decide +kernel
theorem dX11_chance_126 : decode cX11_chance 126 = .ok (.iload_n 2, 1) := by decide +kernel
theorem dX11_chance_127 : decode cX11_chance 127 = .ok (.invokevirtual 285, 3) := by decide +kernel
theorem dX11_chance_130 : decode cX11_chance 130 = .ok (.ifCond .eq 10, 3) := by decide +kernel
theorem dX11_chance_133 : decode cX11_chance 133 = .ok (.iload 5, 2) := by decide +kernel
theorem dX11_chance_135 : decode cX11_chance 135 = .ok (.iload 8, 2) := by decide +kernel
theorem dX11_chance_137 : decode cX11_chance 137 = .ok (.iadd, 1) := by decide +kernel
theorem dX11_chance_138 : decode cX11_chance 138 = .ok (.istore 5, 2) := by decide +kernel
theorem dX11_chance_140 : decode cX11_chance 140 = .ok (.iinc 7 1, 3) := by decide +kernel
theorem dX11_chance_143 : decode cX11_chance 143 = .ok (.goto (-61), 3) := by decide +kernel
theorem dX11_chance_146 : decode cX11_chance 146 = .ok (.iload 5, 2) := by decide +kernel
theorem dX11_chance_148 : decode cX11_chance 148 = .ok (.iload 6, 2) := by decide +kernel
theorem dX11_chance_150 : decode cX11_chance 150 = .ok (.invokestatic 288, 3) := by decide +kernel
theorem dX11_chance_153 : decode cX11_chance 153 = .ok (.istore 7, 2) := by decide +kernel
theorem dX11_chance_155 : decode cX11_chance 155 = .ok (.iload 7, 2) := by decide +kernel
theorem dX11_chance_157 : decode cX11_chance 157 = .ok (.ifCond .gt 6, 3) := by decide +kernel
theorem dX11_chance_160 : decode cX11_chance 160 = .ok (.ldc 77, 2) := by decide +kernel
theorem dX11_chance_162 : decode cX11_chance 162 = .ok (.ireturn, 1) := by decide +kernel
theorem dX11_chance_163 : decode cX11_chance 163 = .ok (.iload 4, 2) := by decide +kernel
theorem dX11_chance_165 : decode cX11_chance 165 = .ok (.ifCond .ne 8, 3) := by decide +kernel
theorem dX11_chance_168 : decode cX11_chance 168 = .ok (.iload 5, 2) := by decide +kernel
theorem dX11_chance_170 : decode cX11_chance 170 = .ok (.goto 5, 3) := by decide +kernel
theorem dX11_chance_173 : decode cX11_chance 173 = .ok (.iload 6, 2) := by decide +kernel
theorem dX11_chance_175 : decode cX11_chance 175 = .ok (.iload 7, 2) := by decide +kernel
theorem dX11_chance_177 : decode cX11_chance 177 = .ok (.idiv, 1) := by decide +kernel
theorem dX11_chance_178 : decode cX11_chance 178 = .ok (.ireturn, 1) := by decide +kernel
theorem dX11_drawn_0 : decode cX11_drawn 0 = .ok (.aload_n 0, 1) := by decide +kernel
theorem dX11_drawn_1 : decode cX11_drawn 1 = .ok (.invokevirtual 150, 3) := by decide +kernel
theorem dX11_drawn_4 : decode cX11_drawn 4 = .ok (.ifCond .eq 6, 3) := by decide +kernel
theorem dX11_drawn_7 : decode cX11_drawn 7 = .ok (.ldc 153, 2) := by decide +kernel
theorem dX11_drawn_9 : decode cX11_drawn 9 = .ok (.ireturn, 1) := by decide +kernel
theorem dX11_drawn_10 : decode cX11_drawn 10 = .ok (.iload_n 1, 1) := by decide +kernel
theorem dX11_drawn_11 : decode cX11_drawn 11 = .ok (.ifCond .lt 30, 3) := by decide +kernel
theorem dX11_drawn_14 : decode cX11_drawn 14 = .ok (.iload_n 1, 1) := by decide +kernel
theorem dX11_drawn_15 : decode cX11_drawn 15 = .ok (.bipush 60, 2) := by decide +kernel
theorem dX11_drawn_17 : decode cX11_drawn 17 = .ok (.if_icmp .gt 24, 3) := by decide +kernel
theorem dX11_drawn_20 : decode cX11_drawn 20 = .ok (.iload_n 2, 1) := by decide +kernel
theorem dX11_drawn_21 : decode cX11_drawn 21 = .ok (.iconst 1, 1) := by decide +kernel
theorem dX11_drawn_22 : decode cX11_drawn 22 = .ok (.if_icmp .lt 19, 3) := by decide +kernel
theorem dX11_drawn_25 : decode cX11_drawn 25 = .ok (.iload_n 2, 1) := by decide +kernel
theorem dX11_drawn_26 : decode cX11_drawn 26 = .ok (.ldc_w 291, 3) := by decide +kernel
theorem dX11_drawn_29 : decode cX11_drawn 29 = .ok (.if_icmp .gt 12, 3) := by decide +kernel
theorem dX11_drawn_32 : decode cX11_drawn 32 = .ok (.iload_n 3, 1) := by decide +kernel
theorem dX11_drawn_33 : decode cX11_drawn 33 = .ok (.ifCond .lt 8, 3) := by decide +kernel
theorem dX11_drawn_36 : decode cX11_drawn 36 = .ok (.iload_n 3, 1) := by decide +kernel
theorem dX11_drawn_37 : decode cX11_drawn 37 = .ok (.iconst 1, 1) := by decide +kernel
theorem dX11_drawn_38 : decode cX11_drawn 38 = .ok (.if_icmp .le 6, 3) := by decide +kernel
theorem dX11_drawn_41 : decode cX11_drawn 41 = .ok (.ldc 77, 2) := by decide +kernel
theorem dX11_drawn_43 : decode cX11_drawn 43 = .ok (.ireturn, 1) := by decide +kernel
theorem dX11_drawn_44 : decode cX11_drawn 44 = .ok (.aload_n 0, 1) := by decide +kernel
theorem dX11_drawn_45 : decode cX11_drawn 45 = .ok (.getfield 69, 3) := by decide +kernel
theorem dX11_drawn_48 : decode cX11_drawn 48 = .ok (.aload_n 0, 1) := by decide +kernel
theorem dX11_drawn_49 : decode cX11_drawn 49 = .ok (.getfield 65, 3) := by decide +kernel
theorem dX11_drawn_52 : decode cX11_drawn 52 = .ok (.invokevirtual 140, 3) := by decide +kernel
theorem dX11_drawn_55 : decode cX11_drawn 55 = .ok (.aload_n 0, 1) := by decide +kernel
theorem dX11_drawn_56 : decode cX11_drawn 56 = .ok (.getfield 69, 3) := by decide +kernel
theorem dX11_drawn_59 : decode cX11_drawn 59 = .ok (.iconst 0, 1) := by decide +kernel
theorem dX11_drawn_60 : decode cX11_drawn 60 = .ok (.putfield 235, 3) := by decide +kernel
theorem dX11_drawn_63 : decode cX11_drawn 63 = .ok (.iload_n 2, 1) := by decide +kernel
theorem dX11_drawn_64 : decode cX11_drawn 64 = .ok (.i2l, 1) := by decide +kernel
theorem dX11_drawn_65 : decode cX11_drawn 65 = .ok (.lstore 4, 2) := by decide +kernel
theorem dX11_drawn_67 : decode cX11_drawn 67 = .ok (.iconst 0, 1) := by decide +kernel
theorem dX11_drawn_68 : decode cX11_drawn 68 = .ok (.istore 6, 2) := by decide +kernel
theorem dX11_drawn_70 : decode cX11_drawn 70 = .ok (.iload 6, 2) := by decide +kernel
theorem dX11_drawn_72 : decode cX11_drawn 72 = .ok (.iload_n 1, 1) := by decide +kernel
theorem dX11_drawn_73 : decode cX11_drawn 73 = .ok (.if_icmp .ge 37, 3) := by decide +kernel
theorem dX11_drawn_76 : decode cX11_drawn 76 = .ok (.lload 4, 2) := by decide +kernel
theorem dX11_drawn_78 : decode cX11_drawn 78 = .ok (.ldc2_w 292, 3) := by decide +kernel
theorem dX11_drawn_81 : decode cX11_drawn 81 = .ok (.lmul, 1) := by decide +kernel
theorem dX11_drawn_82 : decode cX11_drawn 82 = .ok (.ldc2_w 294, 3) := by decide +kernel
theorem dX11_drawn_85 : decode cX11_drawn 85 = .ok (.lrem, 1) := by decide +kernel
theorem dX11_drawn_86 : decode cX11_drawn 86 = .ok (.lstore 4, 2) := by decide +kernel
theorem dX11_drawn_88 : decode cX11_drawn 88 = .ok (.aload_n 0, 1) := by decide +kernel
theorem dX11_drawn_89 : decode cX11_drawn 89 = .ok (.getfield 69, 3) := by decide +kernel
theorem dX11_drawn_92 : decode cX11_drawn 92 = .ok (.lload 4, 2) := by decide +kernel
theorem dX11_drawn_94 : decode cX11_drawn 94 = .ok (.invokevirtual 296, 3) := by decide +kernel
theorem dX11_drawn_97 : decode cX11_drawn 97 = .ok (.aload_n 0, 1) := by decide +kernel
theorem dX11_drawn_98 : decode cX11_drawn 98 = .ok (.getfield 69, 3) := by decide +kernel
theorem dX11_drawn_101 : decode cX11_drawn 101 = .ok (.invokevirtual 160, 3) := by decide +kernel
theorem dX11_drawn_104 : decode cX11_drawn 104 = .ok (.iinc 6 1, 3) := by decide +kernel
theorem dX11_drawn_107 : decode cX11_drawn 107 = .ok (.goto (-37), 3) := by decide +kernel
theorem dX11_drawn_110 : decode cX11_drawn 110 = .ok (.iload_n 3, 1) := by decide +kernel
theorem dX11_drawn_111 : decode cX11_drawn 111 = .ok (.ifCond .ne 13, 3) := by decide +kernel
theorem dX11_drawn_114 : decode cX11_drawn 114 = .ok (.aload_n 0, 1) := by decide +kernel
theorem dX11_drawn_115 : decode cX11_drawn 115 = .ok (.getfield 69, 3) := by decide +kernel
theorem dX11_drawn_118 : decode cX11_drawn 118 = .ok (.getfield 235, 3) := by decide +kernel
theorem dX11_drawn_121 : decode cX11_drawn 121 = .ok (.goto 13, 3) := by decide +kernel
theorem dX11_drawn_124 : decode cX11_drawn 124 = .ok (.aload_n 0, 1) := by decide +kernel
theorem dX11_drawn_125 : decode cX11_drawn 125 = .ok (.getfield 69, 3) := by decide +kernel
theorem dX11_drawn_128 : decode cX11_drawn 128 = .ok (.invokevirtual 163, 3) := by decide +kernel
theorem dX11_drawn_131 : decode cX11_drawn 131 = .ok (.invokestatic 242, 3) := by decide +kernel
theorem dX11_drawn_134 : decode cX11_drawn 134 = .ok (.ireturn, 1) := by decide +kernel
theorem dX11_noImage_0 : decode cX11_noImage 0 = .ok (.iload_n 0, 1) := by decide +kernel
theorem dX11_noImage_1 : decode cX11_noImage 1 = .ok (.ifCond .lt 8, 3) := by decide +kernel
theorem dX11_noImage_4 : decode cX11_noImage 4 = .ok (.iload_n 0, 1) := by decide +kernel
theorem dX11_noImage_5 : decode cX11_noImage 5 = .ok (.iconst 2, 1) := by decide +kernel
theorem dX11_noImage_6 : decode cX11_noImage 6 = .ok (.if_icmp .lt 7, 3) := by decide +kernel
theorem dX11_noImage_9 : decode cX11_noImage 9 = .ok (.iconst 1, 1) := by decide +kernel
theorem dX11_noImage_10 : decode cX11_noImage 10 = .ok (.goto 4, 3) := by decide +kernel
theorem dX11_noImage_13 : decode cX11_noImage 13 = .ok (.iconst 0, 1) := by decide +kernel
theorem dX11_noImage_14 : decode cX11_noImage 14 = .ok (.ireturn, 1) := by decide +kernel
theorem dX11_image_0 : decode cX11_image 0 = .ok (.iload_n 1, 1) := by decide +kernel
theorem dX11_image_1 : decode cX11_image 1 = .ok (.invokestatic 300, 3) := by decide +kernel
theorem dX11_image_4 : decode cX11_image 4 = .ok (.ifCond .eq 6, 3) := by decide +kernel
theorem dX11_image_7 : decode cX11_image 7 = .ok (.ldc 77, 2) := by decide +kernel
theorem dX11_image_9 : decode cX11_image 9 = .ok (.ireturn, 1) := by decide +kernel
theorem dX11_image_10 : decode cX11_image 10 = .ok (.aload_n 0, 1) := by decide +kernel
theorem dX11_image_11 : decode cX11_image 11 = .ok (.invokevirtual 150, 3) := by decide +kernel
theorem dX11_image_14 : decode cX11_image 14 = .ok (.ifCond .eq 6, 3) := by decide +kernel
theorem dX11_image_17 : decode cX11_image 17 = .ok (.ldc 153, 2) := by decide +kernel
theorem dX11_image_19 : decode cX11_image 19 = .ok (.ireturn, 1) := by decide +kernel
theorem dX11_image_20 : decode cX11_image 20 = .ok (.aload_n 0, 1) := by decide +kernel
theorem dX11_image_21 : decode cX11_image 21 = .ok (.getfield 24, 3) := by decide +kernel
theorem dX11_image_24 : decode cX11_image 24 = .ok (.iload_n 1, 1) := by decide +kernel
theorem dX11_image_25 : decode cX11_image 25 = .ok (.aaload, 1) := by decide +kernel
theorem dX11_image_26 : decode cX11_image 26 = .ok (.aload_n 0, 1) := by decide +kernel
theorem dX11_image_27 : decode cX11_image 27 = .ok (.getfield 65, 3) := by decide +kernel
theorem dX11_image_30 : decode cX11_image 30 = .ok (.invokevirtual 140, 3) := by decide +kernel
theorem dX11_image_33 : decode cX11_image 33 = .ok (.iconst 1, 1) := by decide +kernel
theorem dX11_image_34 : decode cX11_image 34 = .ok (.ireturn, 1) := by decide +kernel
theorem dX11_restore_0 : decode cX11_restore 0 = .ok (.iload_n 1, 1) := by decide +kernel
theorem dX11_restore_1 : decode cX11_restore 1 = .ok (.invokestatic 300, 3) := by decide +kernel
theorem dX11_restore_4 : decode cX11_restore 4 = .ok (.ifCond .eq 6, 3) := by decide +kernel
theorem dX11_restore_7 : decode cX11_restore 7 = .ok (.ldc 77, 2) := by decide +kernel
theorem dX11_restore_9 : decode cX11_restore 9 = .ok (.ireturn, 1) := by decide +kernel
theorem dX11_restore_10 : decode cX11_restore 10 = .ok (.aload_n 0, 1) := by decide +kernel
theorem dX11_restore_11 : decode cX11_restore 11 = .ok (.getfield 24, 3) := by decide +kernel
theorem dX11_restore_14 : decode cX11_restore 14 = .ok (.iload_n 1, 1) := by decide +kernel
theorem dX11_restore_15 : decode cX11_restore 15 = .ok (.aaload, 1) := by decide +kernel
theorem dX11_restore_16 : decode cX11_restore 16 = .ok (.getfield 147, 3) := by decide +kernel
theorem dX11_restore_19 : decode cX11_restore 19 = .ok (.ifCond .ne 6, 3) := by decide +kernel
theorem dX11_restore_22 : decode cX11_restore 22 = .ok (.ldc 153, 2) := by decide +kernel
theorem dX11_restore_24 : decode cX11_restore 24 = .ok (.ireturn, 1) := by decide +kernel
theorem dX11_restore_25 : decode cX11_restore 25 = .ok (.aload_n 0, 1) := by decide +kernel
theorem dX11_restore_26 : decode cX11_restore 26 = .ok (.getfield 65, 3) := by decide +kernel
theorem dX11_restore_29 : decode cX11_restore 29 = .ok (.aload_n 0, 1) := by decide +kernel
theorem dX11_restore_30 : decode cX11_restore 30 = .ok (.getfield 24, 3) := by decide +kernel
theorem dX11_restore_33 : decode cX11_restore 33 = .ok (.iload_n 1, 1) := by decide +kernel
theorem dX11_restore_34 : decode cX11_restore 34 = .ok (.aaload, 1) := by decide +kernel
theorem dX11_restore_35 : decode cX11_restore 35 = .ok (.invokevirtual 140, 3) := by decide +kernel
theorem dX11_restore_38 : decode cX11_restore 38 = .ok (.aload_n 0, 1) := by decide +kernel
theorem dX11_restore_39 : decode cX11_restore 39 = .ok (.invokevirtual 144, 3) := by decide +kernel
theorem dX11_restore_42 : decode cX11_restore 42 = .ok (.iconst 1, 1) := by decide +kernel
theorem dX11_restore_43 : decode cX11_restore 43 = .ok (.ireturn, 1) := by decide +kernel
theorem dX11_kind_0 : decode cX11_kind 0 = .ok (.aload_n 0, 1) := by decide +kernel
theorem dX11_kind_1 : decode cX11_kind 1 = .ok (.iload_n 1, 1) := by decide +kernel
theorem dX11_kind_2 : decode cX11_kind 2 = .ok (.invokevirtual 180, 3) := by decide +kernel
theorem dX11_kind_5 : decode cX11_kind 5 = .ok (.ifCond .eq 6, 3) := by decide +kernel
theorem dX11_kind_8 : decode cX11_kind 8 = .ok (.ldc 77, 2) := by decide +kernel
theorem dX11_kind_10 : decode cX11_kind 10 = .ok (.ireturn, 1) := by decide +kernel
theorem dX11_kind_11 : decode cX11_kind 11 = .ok (.aload_n 0, 1) := by decide +kernel
theorem dX11_kind_12 : decode cX11_kind 12 = .ok (.getfield 65, 3) := by decide +kernel
theorem dX11_kind_15 : decode cX11_kind 15 = .ok (.getfield 313, 3) := by decide +kernel
theorem dX11_kind_18 : decode cX11_kind 18 = .ok (.iload_n 1, 1) := by decide +kernel
theorem dX11_kind_19 : decode cX11_kind 19 = .ok (.iaload, 1) := by decide +kernel
theorem dX11_kind_20 : decode cX11_kind 20 = .ok (.ireturn, 1) := by decide +kernel
theorem dX11_isA_0 : decode cX11_isA 0 = .ok (.iload_n 1, 1) := by decide +kernel
theorem dX11_isA_1 : decode cX11_isA 1 = .ok (.tableswitch 57 0 4 #[35, 37, 42, 47, 52], 35) := by decide +kernel
theorem dX11_isA_36 : decode cX11_isA 36 = .ok (.iconst 1, 1) := by decide +kernel
theorem dX11_isA_37 : decode cX11_isA 37 = .ok (.ireturn, 1) := by decide +kernel
theorem dX11_isA_38 : decode cX11_isA 38 = .ok (.aload_n 0, 1) := by decide +kernel
theorem dX11_isA_39 : decode cX11_isA 39 = .ok (.instanceof 47, 3) := by decide +kernel
theorem dX11_isA_42 : decode cX11_isA 42 = .ok (.ireturn, 1) := by decide +kernel
theorem dX11_isA_43 : decode cX11_isA 43 = .ok (.aload_n 0, 1) := by decide +kernel
theorem dX11_isA_44 : decode cX11_isA 44 = .ok (.instanceof 50, 3) := by decide +kernel
theorem dX11_isA_47 : decode cX11_isA 47 = .ok (.ireturn, 1) := by decide +kernel
theorem dX11_isA_48 : decode cX11_isA 48 = .ok (.aload_n 0, 1) := by decide +kernel
theorem dX11_isA_49 : decode cX11_isA 49 = .ok (.instanceof 53, 3) := by decide +kernel
theorem dX11_isA_52 : decode cX11_isA 52 = .ok (.ireturn, 1) := by decide +kernel
theorem dX11_isA_53 : decode cX11_isA 53 = .ok (.aload_n 0, 1) := by decide +kernel
theorem dX11_isA_54 : decode cX11_isA 54 = .ok (.instanceof 56, 3) := by decide +kernel
theorem dX11_isA_57 : decode cX11_isA 57 = .ok (.ireturn, 1) := by decide +kernel
theorem dX11_isA_58 : decode cX11_isA 58 = .ok (.aload_n 0, 1) := by decide +kernel
theorem dX11_isA_59 : decode cX11_isA 59 = .ok (.instanceof 59, 3) := by decide +kernel
theorem dX11_isA_62 : decode cX11_isA 62 = .ok (.ireturn, 1) := by decide +kernel
theorem dX11_as_0 : decode cX11_as 0 = .ok (.aload_n 0, 1) := by decide +kernel
theorem dX11_as_1 : decode cX11_as 1 = .ok (.iload_n 1, 1) := by decide +kernel
theorem dX11_as_2 : decode cX11_as 2 = .ok (.invokevirtual 180, 3) := by decide +kernel
theorem dX11_as_5 : decode cX11_as 5 = .ok (.ifCond .ne 12, 3) := by decide +kernel
theorem dX11_as_8 : decode cX11_as 8 = .ok (.iload_n 2, 1) := by decide +kernel
theorem dX11_as_9 : decode cX11_as 9 = .ok (.ifCond .lt 8, 3) := by decide +kernel
theorem dX11_as_12 : decode cX11_as 12 = .ok (.iload_n 2, 1) := by decide +kernel
theorem dX11_as_13 : decode cX11_as 13 = .ok (.iconst 5, 1) := by decide +kernel
theorem dX11_as_14 : decode cX11_as 14 = .ok (.if_icmp .le 6, 3) := by decide +kernel
theorem dX11_as_17 : decode cX11_as 17 = .ok (.ldc 77, 2) := by decide +kernel
theorem dX11_as_19 : decode cX11_as 19 = .ok (.ireturn, 1) := by decide +kernel
theorem dX11_as_20 : decode cX11_as 20 = .ok (.aload_n 0, 1) := by decide +kernel
theorem dX11_as_21 : decode cX11_as 21 = .ok (.getfield 65, 3) := by decide +kernel
theorem dX11_as_24 : decode cX11_as 24 = .ok (.iload_n 1, 1) := by decide +kernel
theorem dX11_as_25 : decode cX11_as 25 = .ok (.invokevirtual 316, 3) := by decide +kernel
theorem dX11_as_28 : decode cX11_as 28 = .ok (.iload_n 2, 1) := by decide +kernel
theorem dX11_as_29 : decode cX11_as 29 = .ok (.invokestatic 320, 3) := by decide +kernel
theorem dX11_as_32 : decode cX11_as 32 = .ok (.ifCond .ne 9, 3) := by decide +kernel
theorem dX11_as_35 : decode cX11_as 35 = .ok (.aload_n 0, 1) := by decide +kernel
theorem dX11_as_36 : decode cX11_as 36 = .ok (.iconst 3, 1) := by decide +kernel
theorem dX11_as_37 : decode cX11_as 37 = .ok (.invokevirtual 78, 3) := by decide +kernel
theorem dX11_as_40 : decode cX11_as 40 = .ok (.ireturn, 1) := by decide +kernel
theorem dX11_as_41 : decode cX11_as 41 = .ok (.aload_n 0, 1) := by decide +kernel
theorem dX11_as_42 : decode cX11_as 42 = .ok (.iload_n 1, 1) := by decide +kernel
theorem dX11_as_43 : decode cX11_as 43 = .ok (.invokevirtual 86, 3) := by decide +kernel
theorem dX11_as_46 : decode cX11_as 46 = .ok (.ireturn, 1) := by decide +kernel
theorem dX11_ask_0 : decode cX11_ask 0 = .ok (.aload_n 0, 1) := by decide +kernel
theorem dX11_ask_1 : decode cX11_ask 1 = .ok (.iload_n 1, 1) := by decide +kernel
theorem dX11_ask_2 : decode cX11_ask 2 = .ok (.invokevirtual 180, 3) := by decide +kernel
theorem dX11_ask_5 : decode cX11_ask 5 = .ok (.ifCond .ne 12, 3) := by decide +kernel
theorem dX11_ask_8 : decode cX11_ask 8 = .ok (.iload_n 2, 1) := by decide +kernel
theorem dX11_ask_9 : decode cX11_ask 9 = .ok (.ifCond .lt 8, 3) := by decide +kernel
theorem dX11_ask_12 : decode cX11_ask 12 = .ok (.iload_n 2, 1) := by decide +kernel
theorem dX11_ask_13 : decode cX11_ask 13 = .ok (.iconst 1, 1) := by decide +kernel
theorem dX11_ask_14 : decode cX11_ask 14 = .ok (.if_icmp .le 6, 3) := by decide +kernel
theorem dX11_ask_17 : decode cX11_ask 17 = .ok (.ldc 77, 2) := by decide +kernel
theorem dX11_ask_19 : decode cX11_ask 19 = .ok (.ireturn, 1) := by decide +kernel
theorem dX11_ask_20 : decode cX11_ask 20 = .ok (.aload_n 0, 1) := by decide +kernel
theorem dX11_ask_21 : decode cX11_ask 21 = .ok (.getfield 41, 3) := by decide +kernel
theorem dX11_ask_24 : decode cX11_ask 24 = .ok (.invokevirtual 324, 3) := by decide +kernel
theorem dX11_ask_27 : decode cX11_ask 27 = .ok (.aload_n 0, 1) := by decide +kernel
theorem dX11_ask_28 : decode cX11_ask 28 = .ok (.getfield 65, 3) := by decide +kernel
theorem dX11_ask_31 : decode cX11_ask 31 = .ok (.iload_n 1, 1) := by decide +kernel
theorem dX11_ask_32 : decode cX11_ask 32 = .ok (.invokevirtual 316, 3) := by decide +kernel
theorem dX11_ask_35 : decode cX11_ask 35 = .ok (.astore_n 3, 1) := by decide +kernel
theorem dX11_ask_36 : decode cX11_ask 36 = .ok (.iload_n 2, 1) := by decide +kernel
theorem dX11_ask_37 : decode cX11_ask 37 = .ok (.ifCond .ne 19, 3) := by decide +kernel
theorem dX11_ask_40 : decode cX11_ask 40 = .ok (.aload_n 3, 1) := by decide +kernel
theorem dX11_ask_41 : decode cX11_ask 41 = .ok (.aload_n 0, 1) := by decide +kernel
theorem dX11_ask_42 : decode cX11_ask 42 = .ok (.getfield 65, 3) := by decide +kernel
theorem dX11_ask_45 : decode cX11_ask 45 = .ok (.iload_n 1, 1) := by decide +kernel
theorem dX11_ask_46 : decode cX11_ask 46 = .ok (.aload_n 0, 1) := by decide +kernel
theorem dX11_ask_47 : decode cX11_ask 47 = .ok (.getfield 41, 3) := by decide +kernel
theorem dX11_ask_50 : decode cX11_ask 50 = .ok (.invokevirtual 327, 3) := by decide +kernel
theorem dX11_ask_53 : decode cX11_ask 53 = .ok (.goto 16, 3) := by decide +kernel
theorem dX11_ask_56 : decode cX11_ask 56 = .ok (.aload_n 3, 1) := by decide +kernel
theorem dX11_ask_57 : decode cX11_ask 57 = .ok (.aload_n 0, 1) := by decide +kernel
theorem dX11_ask_58 : decode cX11_ask 58 = .ok (.getfield 65, 3) := by decide +kernel
theorem dX11_ask_61 : decode cX11_ask 61 = .ok (.iload_n 1, 1) := by decide +kernel
theorem dX11_ask_62 : decode cX11_ask 62 = .ok (.aload_n 0, 1) := by decide +kernel
theorem dX11_ask_63 : decode cX11_ask 63 = .ok (.getfield 41, 3) := by decide +kernel
theorem dX11_ask_66 : decode cX11_ask 66 = .ok (.invokevirtual 331, 3) := by decide +kernel
theorem dX11_ask_69 : decode cX11_ask 69 = .ok (.ireturn, 1) := by decide +kernel
theorem dX11_trace_0 : decode cX11_trace 0 = .ok (.iload_n 1, 1) := by decide +kernel
theorem dX11_trace_1 : decode cX11_trace 1 = .ok (.ifCond .lt 14, 3) := by decide +kernel
theorem dX11_trace_4 : decode cX11_trace 4 = .ok (.iload_n 1, 1) := by decide +kernel
theorem dX11_trace_5 : decode cX11_trace 5 = .ok (.aload_n 0, 1) := by decide +kernel
theorem dX11_trace_6 : decode cX11_trace 6 = .ok (.getfield 41, 3) := by decide +kernel
theorem dX11_trace_9 : decode cX11_trace 9 = .ok (.getfield 334, 3) := by decide +kernel
theorem dX11_trace_12 : decode cX11_trace 12 = .ok (.if_icmp .lt 8, 3) := by decide +kernel
theorem dX11_trace_15 : decode cX11_trace 15 = .ok (.ldc 238, 2) := by decide +kernel
theorem dX11_trace_17 : decode cX11_trace 17 = .ok (.goto 12, 3) := by decide +kernel
theorem dX11_trace_20 : decode cX11_trace 20 = .ok (.aload_n 0, 1) := by decide +kernel
theorem dX11_trace_21 : decode cX11_trace 21 = .ok (.getfield 41, 3) := by decide +kernel
theorem dX11_trace_24 : decode cX11_trace 24 = .ok (.getfield 335, 3) := by decide +kernel
theorem dX11_trace_27 : decode cX11_trace 27 = .ok (.iload_n 1, 1) := by decide +kernel
theorem dX11_trace_28 : decode cX11_trace 28 = .ok (.iaload, 1) := by decide +kernel
theorem dX11_trace_29 : decode cX11_trace 29 = .ok (.ireturn, 1) := by decide +kernel
theorem dX11_rowsThere_0 : decode cX11_rowsThere 0 = .ok (.iconst 0, 1) := by decide +kernel
theorem dX11_rowsThere_1 : decode cX11_rowsThere 1 = .ok (.istore_n 1, 1) := by decide +kernel
theorem dX11_rowsThere_2 : decode cX11_rowsThere 2 = .ok (.iconst 0, 1) := by decide +kernel
theorem dX11_rowsThere_3 : decode cX11_rowsThere 3 = .ok (.istore_n 2, 1) := by decide +kernel
theorem dX11_rowsThere_4 : decode cX11_rowsThere 4 = .ok (.iload_n 2, 1) := by decide +kernel
theorem dX11_rowsThere_5 : decode cX11_rowsThere 5 = .ok (.bipush 8, 2) := by decide +kernel
theorem dX11_rowsThere_7 : decode cX11_rowsThere 7 = .ok (.if_icmp .ge 29, 3) := by decide +kernel
theorem dX11_rowsThere_10 : decode cX11_rowsThere 10 = .ok (.iload_n 1, 1) := by decide +kernel
theorem dX11_rowsThere_11 : decode cX11_rowsThere 11 = .ok (.aload_n 0, 1) := by decide +kernel
theorem dX11_rowsThere_12 : decode cX11_rowsThere 12 = .ok (.getfield 11, 3) := by decide +kernel
theorem dX11_rowsThere_15 : decode cX11_rowsThere 15 = .ok (.iload_n 2, 1) := by decide +kernel
theorem dX11_rowsThere_16 : decode cX11_rowsThere 16 = .ok (.aaload, 1) := by decide +kernel
theorem dX11_rowsThere_17 : decode cX11_rowsThere 17 = .ok (.invokevirtual 89, 3) := by decide +kernel
theorem dX11_rowsThere_20 : decode cX11_rowsThere 20 = .ok (.ifCond .eq 7, 3) := by decide +kernel
theorem dX11_rowsThere_23 : decode cX11_rowsThere 23 = .ok (.iconst 0, 1) := by decide +kernel
theorem dX11_rowsThere_24 : decode cX11_rowsThere 24 = .ok (.goto 4, 3) := by decide +kernel
theorem dX11_rowsThere_27 : decode cX11_rowsThere 27 = .ok (.iconst 1, 1) := by decide +kernel
theorem dX11_rowsThere_28 : decode cX11_rowsThere 28 = .ok (.iadd, 1) := by decide +kernel
theorem dX11_rowsThere_29 : decode cX11_rowsThere 29 = .ok (.istore_n 1, 1) := by decide +kernel
theorem dX11_rowsThere_30 : decode cX11_rowsThere 30 = .ok (.iinc 2 1, 3) := by decide +kernel
theorem dX11_rowsThere_33 : decode cX11_rowsThere 33 = .ok (.goto (-29), 3) := by decide +kernel
theorem dX11_rowsThere_36 : decode cX11_rowsThere 36 = .ok (.iload_n 1, 1) := by decide +kernel
theorem dX11_rowsThere_37 : decode cX11_rowsThere 37 = .ok (.ireturn, 1) := by decide +kernel
theorem dX11_count_0 : decode cX11_count 0 = .ok (.iload_n 1, 1) := by decide +kernel
theorem dX11_count_1 : decode cX11_count 1 = .ok (.tableswitch 137 0 9 #[55, 60, 68, 76, 84, 92, 108, 116, 124, 129], 55) := by decide +kernel
theorem dX11_count_56 : decode cX11_count 56 = .ok (.aload_n 0, 1) := by decide +kernel
theorem dX11_count_57 : decode cX11_count 57 = .ok (.invokevirtual 338, 3) := by decide +kernel
theorem dX11_count_60 : decode cX11_count 60 = .ok (.ireturn, 1) := by decide +kernel
theorem dX11_count_61 : decode cX11_count 61 = .ok (.aload_n 0, 1) := by decide +kernel
theorem dX11_count_62 : decode cX11_count 62 = .ok (.getfield 65, 3) := by decide +kernel
theorem dX11_count_65 : decode cX11_count 65 = .ok (.getfield 147, 3) := by decide +kernel
theorem dX11_count_68 : decode cX11_count 68 = .ok (.ireturn, 1) := by decide +kernel
theorem dX11_count_69 : decode cX11_count 69 = .ok (.aload_n 0, 1) := by decide +kernel
theorem dX11_count_70 : decode cX11_count 70 = .ok (.getfield 65, 3) := by decide +kernel
theorem dX11_count_73 : decode cX11_count 73 = .ok (.getfield 229, 3) := by decide +kernel
theorem dX11_count_76 : decode cX11_count 76 = .ok (.ireturn, 1) := by decide +kernel
theorem dX11_count_77 : decode cX11_count 77 = .ok (.aload_n 0, 1) := by decide +kernel
theorem dX11_count_78 : decode cX11_count 78 = .ok (.getfield 65, 3) := by decide +kernel
theorem dX11_count_81 : decode cX11_count 81 = .ok (.getfield 154, 3) := by decide +kernel
theorem dX11_count_84 : decode cX11_count 84 = .ok (.ireturn, 1) := by decide +kernel
theorem dX11_count_85 : decode cX11_count 85 = .ok (.aload_n 0, 1) := by decide +kernel
theorem dX11_count_86 : decode cX11_count 86 = .ok (.getfield 65, 3) := by decide +kernel
theorem dX11_count_89 : decode cX11_count 89 = .ok (.getfield 310, 3) := by decide +kernel
theorem dX11_count_92 : decode cX11_count 92 = .ok (.ireturn, 1) := by decide +kernel
theorem dX11_count_93 : decode cX11_count 93 = .ok (.aload_n 0, 1) := by decide +kernel
theorem dX11_count_94 : decode cX11_count 94 = .ok (.getfield 65, 3) := by decide +kernel
theorem dX11_count_97 : decode cX11_count 97 = .ok (.getfield 195, 3) := by decide +kernel
theorem dX11_count_100 : decode cX11_count 100 = .ok (.ifCond .eq 7, 3) := by decide +kernel
theorem dX11_count_103 : decode cX11_count 103 = .ok (.iconst 1, 1) := by decide +kernel
theorem dX11_count_104 : decode cX11_count 104 = .ok (.goto 4, 3) := by decide +kernel
theorem dX11_count_107 : decode cX11_count 107 = .ok (.iconst 0, 1) := by decide +kernel
theorem dX11_count_108 : decode cX11_count 108 = .ok (.ireturn, 1) := by decide +kernel
theorem dX11_count_109 : decode cX11_count 109 = .ok (.aload_n 0, 1) := by decide +kernel
theorem dX11_count_110 : decode cX11_count 110 = .ok (.getfield 65, 3) := by decide +kernel
theorem dX11_count_113 : decode cX11_count 113 = .ok (.invokevirtual 192, 3) := by decide +kernel
theorem dX11_count_116 : decode cX11_count 116 = .ok (.ireturn, 1) := by decide +kernel
theorem dX11_count_117 : decode cX11_count 117 = .ok (.aload_n 0, 1) := by decide +kernel
theorem dX11_count_118 : decode cX11_count 118 = .ok (.getfield 65, 3) := by decide +kernel
theorem dX11_count_121 : decode cX11_count 121 = .ok (.getfield 235, 3) := by decide +kernel
theorem dX11_count_124 : decode cX11_count 124 = .ok (.ireturn, 1) := by decide +kernel
theorem dX11_count_125 : decode cX11_count 125 = .ok (.aload_n 0, 1) := by decide +kernel
theorem dX11_count_126 : decode cX11_count 126 = .ok (.getfield 202, 3) := by decide +kernel
theorem dX11_count_129 : decode cX11_count 129 = .ok (.ireturn, 1) := by decide +kernel
theorem dX11_count_130 : decode cX11_count 130 = .ok (.aload_n 0, 1) := by decide +kernel
theorem dX11_count_131 : decode cX11_count 131 = .ok (.getfield 18, 3) := by decide +kernel
theorem dX11_count_134 : decode cX11_count 134 = .ok (.getfield 124, 3) := by decide +kernel
theorem dX11_count_137 : decode cX11_count 137 = .ok (.ireturn, 1) := by decide +kernel
theorem dX11_count_138 : decode cX11_count 138 = .ok (.ldc 77, 2) := by decide +kernel
theorem dX11_count_140 : decode cX11_count 140 = .ok (.ireturn, 1) := by decide +kernel
theorem dX11_status_0 : decode cX11_status 0 = .ok (.aload_n 0, 1) := by decide +kernel
theorem dX11_status_1 : decode cX11_status 1 = .ok (.getfield 120, 3) := by decide +kernel
theorem dX11_status_4 : decode cX11_status 4 = .ok (.ireturn, 1) := by decide +kernel
