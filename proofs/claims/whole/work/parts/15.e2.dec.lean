theorem dX12_heat_17 : decode cX12_heat 17 = .ok (.ifCond .ne 6, 3) := by decide +kernel
theorem dX12_heat_20 : decode cX12_heat 20 = .ok (.ldc 66, 2) := by decide +kernel
theorem dX12_heat_22 : decode cX12_heat 22 = .ok (.ireturn, 1) := by decide +kernel
theorem dX12_heat_23 : decode cX12_heat 23 = .ok (.aload_n 0, 1) := by decide +kernel
theorem dX12_heat_24 : decode cX12_heat 24 = .ok (.iconst 0, 1) := by decide +kernel
theorem dX12_heat_25 : decode cX12_heat 25 = .ok (.sipush 729, 3) := by decide +kernel
theorem dX12_heat_28 : decode cX12_heat 28 = .ok (.invokevirtual 162, 3) := by decide +kernel
theorem dX12_heat_31 : decode cX12_heat 31 = .ok (.aload_n 0, 1) := by decide +kernel
theorem dX12_heat_32 : decode cX12_heat 32 = .ok (.iload_n 2, 1) := by decide +kernel
theorem dX12_heat_33 : decode cX12_heat 33 = .ok (.invokevirtual 202, 3) := by decide +kernel
theorem dX12_heat_36 : decode cX12_heat 36 = .ok (.aload_n 0, 1) := by decide +kernel
theorem dX12_heat_37 : decode cX12_heat 37 = .ok (.getfield 7, 3) := by decide +kernel
theorem dX12_heat_40 : decode cX12_heat 40 = .ok (.sipush 729, 3) := by decide +kernel
theorem dX12_heat_43 : decode cX12_heat 43 = .ok (.iload_n 1, 1) := by decide +kernel
theorem dX12_heat_44 : decode cX12_heat 44 = .ok (.iadd, 1) := by decide +kernel
theorem dX12_heat_45 : decode cX12_heat 45 = .ok (.iaload, 1) := by decide +kernel
theorem dX12_heat_46 : decode cX12_heat 46 = .ok (.ireturn, 1) := by decide +kernel
theorem dX12_later_0 : decode cX12_later 0 = .ok (.aload_n 0, 1) := by decide +kernel
theorem dX12_later_1 : decode cX12_later 1 = .ok (.invokevirtual 165, 3) := by decide +kernel
theorem dX12_later_4 : decode cX12_later 4 = .ok (.ifCond .ne 6, 3) := by decide +kernel
theorem dX12_later_7 : decode cX12_later 7 = .ok (.ldc 169, 2) := by decide +kernel
theorem dX12_later_9 : decode cX12_later 9 = .ok (.ireturn, 1) := by decide +kernel
theorem dX12_later_10 : decode cX12_later 10 = .ok (.iload_n 1, 1) := by decide +kernel
theorem dX12_later_11 : decode cX12_later 11 = .ok (.i2l, 1) := by decide +kernel
theorem dX12_later_12 : decode cX12_later 12 = .ok (.lconst 0, 1) := by decide +kernel
theorem dX12_later_13 : decode cX12_later 13 = .ok (.ldc2_w 200, 3) := by decide +kernel
theorem dX12_later_16 : decode cX12_later 16 = .ok (.invokestatic 60, 3) := by decide +kernel
theorem dX12_later_19 : decode cX12_later 19 = .ok (.ifCond .eq 15, 3) := by decide +kernel
theorem dX12_later_22 : decode cX12_later 22 = .ok (.iload_n 2, 1) := by decide +kernel
theorem dX12_later_23 : decode cX12_later 23 = .ok (.i2l, 1) := by decide +kernel
theorem dX12_later_24 : decode cX12_later 24 = .ok (.lconst 0, 1) := by decide +kernel
theorem dX12_later_25 : decode cX12_later 25 = .ok (.ldc2_w 64, 3) := by decide +kernel
theorem dX12_later_28 : decode cX12_later 28 = .ok (.invokestatic 60, 3) := by decide +kernel
theorem dX12_later_31 : decode cX12_later 31 = .ok (.ifCond .ne 6, 3) := by decide +kernel
theorem dX12_later_34 : decode cX12_later 34 = .ok (.ldc 66, 2) := by decide +kernel
theorem dX12_later_36 : decode cX12_later 36 = .ok (.ireturn, 1) := by decide +kernel
theorem dX12_later_37 : decode cX12_later 37 = .ok (.aload_n 0, 1) := by decide +kernel
theorem dX12_later_38 : decode cX12_later 38 = .ok (.iconst 0, 1) := by decide +kernel
theorem dX12_later_39 : decode cX12_later 39 = .ok (.sipush 729, 3) := by decide +kernel
theorem dX12_later_42 : decode cX12_later 42 = .ok (.invokevirtual 162, 3) := by decide +kernel
theorem dX12_later_45 : decode cX12_later 45 = .ok (.aload_n 0, 1) := by decide +kernel
theorem dX12_later_46 : decode cX12_later 46 = .ok (.iload_n 1, 1) := by decide +kernel
theorem dX12_later_47 : decode cX12_later 47 = .ok (.invokevirtual 202, 3) := by decide +kernel
theorem dX12_later_50 : decode cX12_later 50 = .ok (.iload_n 2, 1) := by decide +kernel
theorem dX12_later_51 : decode cX12_later 51 = .ok (.ifCond .ne 13, 3) := by decide +kernel
theorem dX12_later_54 : decode cX12_later 54 = .ok (.aload_n 0, 1) := by decide +kernel
theorem dX12_later_55 : decode cX12_later 55 = .ok (.sipush 729, 3) := by decide +kernel
theorem dX12_later_58 : decode cX12_later 58 = .ok (.invokevirtual 144, 3) := by decide +kernel
theorem dX12_later_61 : decode cX12_later 61 = .ok (.goto 26, 3) := by decide +kernel
theorem dX12_later_64 : decode cX12_later 64 = .ok (.iload_n 2, 1) := by decide +kernel
theorem dX12_later_65 : decode cX12_later 65 = .ok (.iconst 1, 1) := by decide +kernel
theorem dX12_later_66 : decode cX12_later 66 = .ok (.if_icmp .ne 13, 3) := by decide +kernel
theorem dX12_later_69 : decode cX12_later 69 = .ok (.aload_n 0, 1) := by decide +kernel
theorem dX12_later_70 : decode cX12_later 70 = .ok (.sipush 729, 3) := by decide +kernel
theorem dX12_later_73 : decode cX12_later 73 = .ok (.invokevirtual 182, 3) := by decide +kernel
theorem dX12_later_76 : decode cX12_later 76 = .ok (.goto 11, 3) := by decide +kernel
theorem dX12_later_79 : decode cX12_later 79 = .ok (.aload_n 0, 1) := by decide +kernel
theorem dX12_later_80 : decode cX12_later 80 = .ok (.getfield 7, 3) := by decide +kernel
theorem dX12_later_83 : decode cX12_later 83 = .ok (.sipush 754, 3) := by decide +kernel
theorem dX12_later_86 : decode cX12_later 86 = .ok (.iaload, 1) := by decide +kernel
theorem dX12_later_87 : decode cX12_later 87 = .ok (.ireturn, 1) := by decide +kernel
theorem dX12_lost_0 : decode cX12_lost 0 = .ok (.aload_n 0, 1) := by decide +kernel
theorem dX12_lost_1 : decode cX12_lost 1 = .ok (.iload_n 1, 1) := by decide +kernel
theorem dX12_lost_2 : decode cX12_lost 2 = .ok (.invokevirtual 185, 3) := by decide +kernel
theorem dX12_lost_5 : decode cX12_lost 5 = .ok (.ifCond .ne 6, 3) := by decide +kernel
theorem dX12_lost_8 : decode cX12_lost 8 = .ok (.ldc 66, 2) := by decide +kernel
theorem dX12_lost_10 : decode cX12_lost 10 = .ok (.ireturn, 1) := by decide +kernel
theorem dX12_lost_11 : decode cX12_lost 11 = .ok (.aload_n 0, 1) := by decide +kernel
theorem dX12_lost_12 : decode cX12_lost 12 = .ok (.iconst 0, 1) := by decide +kernel
theorem dX12_lost_13 : decode cX12_lost 13 = .ok (.sipush 729, 3) := by decide +kernel
theorem dX12_lost_16 : decode cX12_lost 16 = .ok (.invokevirtual 162, 3) := by decide +kernel
theorem dX12_lost_19 : decode cX12_lost 19 = .ok (.iconst 0, 1) := by decide +kernel
theorem dX12_lost_20 : decode cX12_lost 20 = .ok (.istore_n 2, 1) := by decide +kernel
theorem dX12_lost_21 : decode cX12_lost 21 = .ok (.iload_n 2, 1) := by decide +kernel
theorem dX12_lost_22 : decode cX12_lost 22 = .ok (.bipush 60, 2) := by decide +kernel
theorem dX12_lost_24 : decode cX12_lost 24 = .ok (.if_icmp .gt 27, 3) := by decide +kernel
theorem dX12_lost_27 : decode cX12_lost 27 = .ok (.aload_n 0, 1) := by decide +kernel
theorem dX12_lost_28 : decode cX12_lost 28 = .ok (.sipush 729, 3) := by decide +kernel
theorem dX12_lost_31 : decode cX12_lost 31 = .ok (.iload_n 1, 1) := by decide +kernel
theorem dX12_lost_32 : decode cX12_lost 32 = .ok (.invokevirtual 134, 3) := by decide +kernel
theorem dX12_lost_35 : decode cX12_lost 35 = .ok (.ifCond .ne 5, 3) := by decide +kernel
theorem dX12_lost_38 : decode cX12_lost 38 = .ok (.iload_n 2, 1) := by decide +kernel
theorem dX12_lost_39 : decode cX12_lost 39 = .ok (.ireturn, 1) := by decide +kernel
theorem dX12_lost_40 : decode cX12_lost 40 = .ok (.aload_n 0, 1) := by decide +kernel
theorem dX12_lost_41 : decode cX12_lost 41 = .ok (.iconst 1, 1) := by decide +kernel
theorem dX12_lost_42 : decode cX12_lost 42 = .ok (.invokevirtual 202, 3) := by decide +kernel
theorem dX12_lost_45 : decode cX12_lost 45 = .ok (.iinc 2 1, 3) := by decide +kernel
theorem dX12_lost_48 : decode cX12_lost 48 = .ok (.goto (-27), 3) := by decide +kernel
theorem dX12_lost_51 : decode cX12_lost 51 = .ok (.ldc 205, 2) := by decide +kernel
theorem dX12_lost_53 : decode cX12_lost 53 = .ok (.ireturn, 1) := by decide +kernel
theorem dX12_dark_0 : decode cX12_dark 0 = .ok (.aload_n 0, 1) := by decide +kernel
theorem dX12_dark_1 : decode cX12_dark 1 = .ok (.invokevirtual 165, 3) := by decide +kernel
theorem dX12_dark_4 : decode cX12_dark 4 = .ok (.ifCond .ne 6, 3) := by decide +kernel
theorem dX12_dark_7 : decode cX12_dark 7 = .ok (.ldc 169, 2) := by decide +kernel
theorem dX12_dark_9 : decode cX12_dark 9 = .ok (.ireturn, 1) := by decide +kernel
theorem dX12_dark_10 : decode cX12_dark 10 = .ok (.aload_n 0, 1) := by decide +kernel
theorem dX12_dark_11 : decode cX12_dark 11 = .ok (.iconst 0, 1) := by decide +kernel
theorem dX12_dark_12 : decode cX12_dark 12 = .ok (.sipush 729, 3) := by decide +kernel
theorem dX12_dark_15 : decode cX12_dark 15 = .ok (.invokevirtual 162, 3) := by decide +kernel
theorem dX12_dark_18 : decode cX12_dark 18 = .ok (.iconst 0, 1) := by decide +kernel
theorem dX12_dark_19 : decode cX12_dark 19 = .ok (.istore_n 1, 1) := by decide +kernel
theorem dX12_dark_20 : decode cX12_dark 20 = .ok (.iload_n 1, 1) := by decide +kernel
theorem dX12_dark_21 : decode cX12_dark 21 = .ok (.bipush 60, 2) := by decide +kernel
theorem dX12_dark_23 : decode cX12_dark 23 = .ok (.if_icmp .gt 26, 3) := by decide +kernel
theorem dX12_dark_26 : decode cX12_dark 26 = .ok (.aload_n 0, 1) := by decide +kernel
theorem dX12_dark_27 : decode cX12_dark 27 = .ok (.sipush 729, 3) := by decide +kernel
theorem dX12_dark_30 : decode cX12_dark 30 = .ok (.invokevirtual 182, 3) := by decide +kernel
theorem dX12_dark_33 : decode cX12_dark 33 = .ok (.ifCond .ne 5, 3) := by decide +kernel
theorem dX12_dark_36 : decode cX12_dark 36 = .ok (.iload_n 1, 1) := by decide +kernel
theorem dX12_dark_37 : decode cX12_dark 37 = .ok (.ireturn, 1) := by decide +kernel
theorem dX12_dark_38 : decode cX12_dark 38 = .ok (.aload_n 0, 1) := by decide +kernel
theorem dX12_dark_39 : decode cX12_dark 39 = .ok (.iconst 1, 1) := by decide +kernel
theorem dX12_dark_40 : decode cX12_dark 40 = .ok (.invokevirtual 202, 3) := by decide +kernel
theorem dX12_dark_43 : decode cX12_dark 43 = .ok (.iinc 1 1, 3) := by decide +kernel
theorem dX12_dark_46 : decode cX12_dark 46 = .ok (.goto (-26), 3) := by decide +kernel
theorem dX12_dark_49 : decode cX12_dark 49 = .ok (.ldc 205, 2) := by decide +kernel
theorem dX12_dark_51 : decode cX12_dark 51 = .ok (.ireturn, 1) := by decide +kernel
theorem dX12_onOnes_0 : decode cX12_onOnes 0 = .ok (.iconst 0, 1) := by decide +kernel
theorem dX12_onOnes_1 : decode cX12_onOnes 1 = .ok (.istore_n 1, 1) := by decide +kernel
theorem dX12_onOnes_2 : decode cX12_onOnes 2 = .ok (.iconst 0, 1) := by decide +kernel
theorem dX12_onOnes_3 : decode cX12_onOnes 3 = .ok (.istore_n 2, 1) := by decide +kernel
theorem dX12_onOnes_4 : decode cX12_onOnes 4 = .ok (.iload_n 2, 1) := by decide +kernel
theorem dX12_onOnes_5 : decode cX12_onOnes 5 = .ok (.aload_n 0, 1) := by decide +kernel
theorem dX12_onOnes_6 : decode cX12_onOnes 6 = .ok (.getfield 13, 3) := by decide +kernel
theorem dX12_onOnes_9 : decode cX12_onOnes 9 = .ok (.iconst 1, 1) := by decide +kernel
theorem dX12_onOnes_10 : decode cX12_onOnes 10 = .ok (.iaload, 1) := by decide +kernel
theorem dX12_onOnes_11 : decode cX12_onOnes 11 = .ok (.if_icmp .ge 23, 3) := by decide +kernel
theorem dX12_onOnes_14 : decode cX12_onOnes 14 = .ok (.iload_n 1, 1) := by decide +kernel
theorem dX12_onOnes_15 : decode cX12_onOnes 15 = .ok (.aload_n 0, 1) := by decide +kernel
theorem dX12_onOnes_16 : decode cX12_onOnes 16 = .ok (.getfield 7, 3) := by decide +kernel
theorem dX12_onOnes_19 : decode cX12_onOnes 19 = .ok (.bipush 18, 2) := by decide +kernel
theorem dX12_onOnes_21 : decode cX12_onOnes 21 = .ok (.iload_n 2, 1) := by decide +kernel
theorem dX12_onOnes_22 : decode cX12_onOnes 22 = .ok (.iadd, 1) := by decide +kernel
theorem dX12_onOnes_23 : decode cX12_onOnes 23 = .ok (.iaload, 1) := by decide +kernel
theorem dX12_onOnes_24 : decode cX12_onOnes 24 = .ok (.iload_n 2, 1) := by decide +kernel
theorem dX12_onOnes_25 : decode cX12_onOnes 25 = .ok (.ishl, 1) := by decide +kernel
theorem dX12_onOnes_26 : decode cX12_onOnes 26 = .ok (.ior, 1) := by decide +kernel
theorem dX12_onOnes_27 : decode cX12_onOnes 27 = .ok (.istore_n 1, 1) := by decide +kernel
theorem dX12_onOnes_28 : decode cX12_onOnes 28 = .ok (.iinc 2 1, 3) := by decide +kernel
theorem dX12_onOnes_31 : decode cX12_onOnes 31 = .ok (.goto (-27), 3) := by decide +kernel
theorem dX12_onOnes_34 : decode cX12_onOnes 34 = .ok (.iload_n 1, 1) := by decide +kernel
theorem dX12_onOnes_35 : decode cX12_onOnes 35 = .ok (.ireturn, 1) := by decide +kernel
theorem dX12_offs_0 : decode cX12_offs 0 = .ok (.iconst 0, 1) := by decide +kernel
theorem dX12_offs_1 : decode cX12_offs 1 = .ok (.istore_n 2, 1) := by decide +kernel
theorem dX12_offs_2 : decode cX12_offs 2 = .ok (.iload_n 2, 1) := by decide +kernel
theorem dX12_offs_3 : decode cX12_offs 3 = .ok (.aload_n 0, 1) := by decide +kernel
theorem dX12_offs_4 : decode cX12_offs 4 = .ok (.getfield 13, 3) := by decide +kernel
theorem dX12_offs_7 : decode cX12_offs 7 = .ok (.iconst 1, 1) := by decide +kernel
theorem dX12_offs_8 : decode cX12_offs 8 = .ok (.iaload, 1) := by decide +kernel
theorem dX12_offs_9 : decode cX12_offs 9 = .ok (.if_icmp .ge 41, 3) := by decide +kernel
theorem dX12_offs_12 : decode cX12_offs 12 = .ok (.aload_n 0, 1) := by decide +kernel
theorem dX12_offs_13 : decode cX12_offs 13 = .ok (.getfield 7, 3) := by decide +kernel
theorem dX12_offs_16 : decode cX12_offs 16 = .ok (.sipush 747, 3) := by decide +kernel
theorem dX12_offs_19 : decode cX12_offs 19 = .ok (.iload_n 2, 1) := by decide +kernel
theorem dX12_offs_20 : decode cX12_offs 20 = .ok (.iadd, 1) := by decide +kernel
theorem dX12_offs_21 : decode cX12_offs 21 = .ok (.iload_n 1, 1) := by decide +kernel
theorem dX12_offs_22 : decode cX12_offs 22 = .ok (.iload_n 2, 1) := by decide +kernel
theorem dX12_offs_23 : decode cX12_offs 23 = .ok (.invokestatic 150, 3) := by decide +kernel
theorem dX12_offs_26 : decode cX12_offs 26 = .ok (.ifCond .eq 7, 3) := by decide +kernel
theorem dX12_offs_29 : decode cX12_offs 29 = .ok (.iconst 0, 1) := by decide +kernel
theorem dX12_offs_30 : decode cX12_offs 30 = .ok (.goto 13, 3) := by decide +kernel
theorem dX12_offs_33 : decode cX12_offs 33 = .ok (.aload_n 0, 1) := by decide +kernel
theorem dX12_offs_34 : decode cX12_offs 34 = .ok (.getfield 7, 3) := by decide +kernel
theorem dX12_offs_37 : decode cX12_offs 37 = .ok (.sipush 747, 3) := by decide +kernel
theorem dX12_offs_40 : decode cX12_offs 40 = .ok (.iload_n 2, 1) := by decide +kernel
theorem dX12_offs_41 : decode cX12_offs 41 = .ok (.iadd, 1) := by decide +kernel
theorem dX12_offs_42 : decode cX12_offs 42 = .ok (.iaload, 1) := by decide +kernel
theorem dX12_offs_43 : decode cX12_offs 43 = .ok (.iastore, 1) := by decide +kernel
theorem dX12_offs_44 : decode cX12_offs 44 = .ok (.iinc 2 1, 3) := by decide +kernel
theorem dX12_offs_47 : decode cX12_offs 47 = .ok (.goto (-45), 3) := by decide +kernel
theorem dX12_offs_50 : decode cX12_offs 50 = .ok (.return_, 1) := by decide +kernel
theorem dX12_isLiveFor_0 : decode cX12_isLiveFor 0 = .ok (.iconst 1, 1) := by decide +kernel
theorem dX12_isLiveFor_1 : decode cX12_isLiveFor 1 = .ok (.istore_n 3, 1) := by decide +kernel
theorem dX12_isLiveFor_2 : decode cX12_isLiveFor 2 = .ok (.iconst 0, 1) := by decide +kernel
theorem dX12_isLiveFor_3 : decode cX12_isLiveFor 3 = .ok (.istore 4, 2) := by decide +kernel
theorem dX12_isLiveFor_5 : decode cX12_isLiveFor 5 = .ok (.iload 4, 2) := by decide +kernel
theorem dX12_isLiveFor_7 : decode cX12_isLiveFor 7 = .ok (.iload_n 2, 1) := by decide +kernel
theorem dX12_isLiveFor_8 : decode cX12_isLiveFor 8 = .ok (.if_icmp .ge 35, 3) := by decide +kernel
theorem dX12_isLiveFor_11 : decode cX12_isLiveFor 11 = .ok (.aload_n 0, 1) := by decide +kernel
theorem dX12_isLiveFor_12 : decode cX12_isLiveFor 12 = .ok (.iconst 1, 1) := by decide +kernel
theorem dX12_isLiveFor_13 : decode cX12_isLiveFor 13 = .ok (.invokevirtual 202, 3) := by decide +kernel
theorem dX12_isLiveFor_16 : decode cX12_isLiveFor 16 = .ok (.iload_n 3, 1) := by decide +kernel
theorem dX12_isLiveFor_17 : decode cX12_isLiveFor 17 = .ok (.ifCond .eq 18, 3) := by decide +kernel
theorem dX12_isLiveFor_20 : decode cX12_isLiveFor 20 = .ok (.aload_n 0, 1) := by decide +kernel
theorem dX12_isLiveFor_21 : decode cX12_isLiveFor 21 = .ok (.sipush 729, 3) := by decide +kernel
theorem dX12_isLiveFor_24 : decode cX12_isLiveFor 24 = .ok (.iload_n 1, 1) := by decide +kernel
theorem dX12_isLiveFor_25 : decode cX12_isLiveFor 25 = .ok (.invokevirtual 134, 3) := by decide +kernel
theorem dX12_isLiveFor_28 : decode cX12_isLiveFor 28 = .ok (.ifCond .eq 7, 3) := by decide +kernel
theorem dX12_isLiveFor_31 : decode cX12_isLiveFor 31 = .ok (.iconst 1, 1) := by decide +kernel
theorem dX12_isLiveFor_32 : decode cX12_isLiveFor 32 = .ok (.goto 4, 3) := by decide +kernel
theorem dX12_isLiveFor_35 : decode cX12_isLiveFor 35 = .ok (.iconst 0, 1) := by decide +kernel
theorem dX12_isLiveFor_36 : decode cX12_isLiveFor 36 = .ok (.istore_n 3, 1) := by decide +kernel
theorem dX12_isLiveFor_37 : decode cX12_isLiveFor 37 = .ok (.iinc 4 1, 3) := by decide +kernel
theorem dX12_isLiveFor_40 : decode cX12_isLiveFor 40 = .ok (.goto (-35), 3) := by decide +kernel
theorem dX12_isLiveFor_43 : decode cX12_isLiveFor 43 = .ok (.iload_n 3, 1) := by decide +kernel
theorem dX12_isLiveFor_44 : decode cX12_isLiveFor 44 = .ok (.ireturn, 1) := by decide +kernel
theorem dX12_shed_0 : decode cX12_shed 0 = .ok (.aload_n 0, 1) := by decide +kernel
theorem dX12_shed_1 : decode cX12_shed 1 = .ok (.iload_n 1, 1) := by decide +kernel
theorem dX12_shed_2 : decode cX12_shed 2 = .ok (.invokevirtual 178, 3) := by decide +kernel
theorem dX12_shed_5 : decode cX12_shed 5 = .ok (.ifCond .eq 25, 3) := by decide +kernel
theorem dX12_shed_8 : decode cX12_shed 8 = .ok (.iload_n 2, 1) := by decide +kernel
theorem dX12_shed_9 : decode cX12_shed 9 = .ok (.i2l, 1) := by decide +kernel
theorem dX12_shed_10 : decode cX12_shed 10 = .ok (.lconst 1, 1) := by decide +kernel
theorem dX12_shed_11 : decode cX12_shed 11 = .ok (.ldc2_w 206, 3) := by decide +kernel
theorem dX12_shed_14 : decode cX12_shed 14 = .ok (.invokestatic 60, 3) := by decide +kernel
theorem dX12_shed_17 : decode cX12_shed 17 = .ok (.ifCond .eq 13, 3) := by decide +kernel
theorem dX12_shed_20 : decode cX12_shed 20 = .ok (.iload_n 3, 1) := by decide +kernel
theorem dX12_shed_21 : decode cX12_shed 21 = .ok (.i2l, 1) := by decide +kernel
theorem dX12_shed_22 : decode cX12_shed 22 = .ok (.lconst 0, 1) := by decide +kernel
theorem dX12_shed_23 : decode cX12_shed 23 = .ok (.lconst 1, 1) := by decide +kernel
theorem dX12_shed_24 : decode cX12_shed 24 = .ok (.invokestatic 60, 3) := by decide +kernel
theorem dX12_shed_27 : decode cX12_shed 27 = .ok (.ifCond .ne 6, 3) := by decide +kernel
theorem dX12_shed_30 : decode cX12_shed 30 = .ok (.ldc 66, 2) := by decide +kernel
theorem dX12_shed_32 : decode cX12_shed 32 = .ok (.ireturn, 1) := by decide +kernel
theorem dX12_shed_33 : decode cX12_shed 33 = .ok (.aload_n 0, 1) := by decide +kernel
theorem dX12_shed_34 : decode cX12_shed 34 = .ok (.invokevirtual 208, 3) := by decide +kernel
theorem dX12_shed_37 : decode cX12_shed 37 = .ok (.iconst 1, 1) := by decide +kernel
theorem dX12_shed_38 : decode cX12_shed 38 = .ok (.iload_n 1, 1) := by decide +kernel
theorem dX12_shed_39 : decode cX12_shed 39 = .ok (.ishl, 1) := by decide +kernel
theorem dX12_shed_40 : decode cX12_shed 40 = .ok (.iconst (-1), 1) := by decide +kernel
theorem dX12_shed_41 : decode cX12_shed 41 = .ok (.ixor, 1) := by decide +kernel
theorem dX12_shed_42 : decode cX12_shed 42 = .ok (.iand, 1) := by decide +kernel
theorem dX12_shed_43 : decode cX12_shed 43 = .ok (.istore 4, 2) := by decide +kernel
theorem dX12_shed_45 : decode cX12_shed 45 = .ok (.ldc 205, 2) := by decide +kernel
theorem dX12_shed_47 : decode cX12_shed 47 = .ok (.istore 5, 2) := by decide +kernel
theorem dX12_shed_49 : decode cX12_shed 49 = .ok (.iconst 0, 1) := by decide +kernel
theorem dX12_shed_50 : decode cX12_shed 50 = .ok (.istore 6, 2) := by decide +kernel
theorem dX12_shed_52 : decode cX12_shed 52 = .ok (.iload 6, 2) := by decide +kernel
theorem dX12_shed_54 : decode cX12_shed 54 = .ok (.bipush 64, 2) := by decide +kernel
theorem dX12_shed_56 : decode cX12_shed 56 = .ok (.if_icmp .ge 98, 3) := by decide +kernel
theorem dX12_shed_59 : decode cX12_shed 59 = .ok (.iload 5, 2) := by decide +kernel
theorem dX12_shed_61 : decode cX12_shed 61 = .ok (.ifCond .lt 16, 3) := by decide +kernel
theorem dX12_shed_64 : decode cX12_shed 64 = .ok (.iload 6, 2) := by decide +kernel
theorem dX12_shed_66 : decode cX12_shed 66 = .ok (.invokestatic 211, 3) := by decide +kernel
theorem dX12_shed_69 : decode cX12_shed 69 = .ok (.iload 5, 2) := by decide +kernel
theorem dX12_shed_71 : decode cX12_shed 71 = .ok (.invokestatic 211, 3) := by decide +kernel
theorem dX12_shed_74 : decode cX12_shed 74 = .ok (.if_icmp .ge 7, 3) := by decide +kernel
theorem dX12_shed_77 : decode cX12_shed 77 = .ok (.iconst 1, 1) := by decide +kernel
theorem dX12_shed_78 : decode cX12_shed 78 = .ok (.goto 4, 3) := by decide +kernel
theorem dX12_shed_81 : decode cX12_shed 81 = .ok (.iconst 0, 1) := by decide +kernel
theorem dX12_shed_82 : decode cX12_shed 82 = .ok (.istore 7, 2) := by decide +kernel
theorem dX12_shed_84 : decode cX12_shed 84 = .ok (.iload 6, 2) := by decide +kernel
theorem dX12_shed_86 : decode cX12_shed 86 = .ok (.iload 4, 2) := by decide +kernel
theorem dX12_shed_88 : decode cX12_shed 88 = .ok (.iconst (-1), 1) := by decide +kernel
theorem dX12_shed_89 : decode cX12_shed 89 = .ok (.ixor, 1) := by decide +kernel
theorem dX12_shed_90 : decode cX12_shed 90 = .ok (.iand, 1) := by decide +kernel
theorem dX12_shed_91 : decode cX12_shed 91 = .ok (.ifCond .ne 57, 3) := by decide +kernel
theorem dX12_shed_94 : decode cX12_shed 94 = .ok (.iload 7, 2) := by decide +kernel
theorem dX12_shed_96 : decode cX12_shed 96 = .ok (.ifCond .eq 52, 3) := by decide +kernel
theorem dX12_shed_99 : decode cX12_shed 99 = .ok (.aload_n 0, 1) := by decide +kernel
theorem dX12_shed_100 : decode cX12_shed 100 = .ok (.iconst 0, 1) := by decide +kernel
theorem dX12_shed_101 : decode cX12_shed 101 = .ok (.iload_n 1, 1) := by decide +kernel
theorem dX12_shed_102 : decode cX12_shed 102 = .ok (.invokevirtual 138, 3) := by decide +kernel
theorem dX12_shed_105 : decode cX12_shed 105 = .ok (.ifCond .eq 43, 3) := by decide +kernel
theorem dX12_shed_108 : decode cX12_shed 108 = .ok (.aload_n 0, 1) := by decide +kernel
theorem dX12_shed_109 : decode cX12_shed 109 = .ok (.iconst 0, 1) := by decide +kernel
theorem dX12_shed_110 : decode cX12_shed 110 = .ok (.sipush 729, 3) := by decide +kernel
theorem dX12_shed_113 : decode cX12_shed 113 = .ok (.invokevirtual 162, 3) := by decide +kernel
theorem dX12_shed_116 : decode cX12_shed 116 = .ok (.aload_n 0, 1) := by decide +kernel
theorem dX12_shed_117 : decode cX12_shed 117 = .ok (.iload 6, 2) := by decide +kernel
theorem dX12_shed_119 : decode cX12_shed 119 = .ok (.invokevirtual 214, 3) := by decide +kernel
theorem dX12_shed_122 : decode cX12_shed 122 = .ok (.aload_n 0, 1) := by decide +kernel
theorem dX12_shed_123 : decode cX12_shed 123 = .ok (.aload_n 0, 1) := by decide +kernel
theorem dX12_shed_124 : decode cX12_shed 124 = .ok (.getfield 7, 3) := by decide +kernel
theorem dX12_shed_127 : decode cX12_shed 127 = .ok (.bipush 12, 2) := by decide +kernel
theorem dX12_shed_129 : decode cX12_shed 129 = .ok (.iload_n 1, 1) := by decide +kernel
theorem dX12_shed_130 : decode cX12_shed 130 = .ok (.iadd, 1) := by decide +kernel
theorem dX12_shed_131 : decode cX12_shed 131 = .ok (.iaload, 1) := by decide +kernel
theorem dX12_shed_132 : decode cX12_shed 132 = .ok (.iload_n 2, 1) := by decide +kernel
theorem dX12_shed_133 : decode cX12_shed 133 = .ok (.invokevirtual 217, 3) := by decide +kernel
theorem dX12_shed_136 : decode cX12_shed 136 = .ok (.ifCond .eq 8, 3) := by decide +kernel
theorem dX12_shed_139 : decode cX12_shed 139 = .ok (.iload 6, 2) := by decide +kernel
theorem dX12_shed_141 : decode cX12_shed 141 = .ok (.goto 5, 3) := by decide +kernel
theorem dX12_shed_144 : decode cX12_shed 144 = .ok (.iload 5, 2) := by decide +kernel
theorem dX12_shed_146 : decode cX12_shed 146 = .ok (.istore 5, 2) := by decide +kernel
theorem dX12_shed_148 : decode cX12_shed 148 = .ok (.iinc 6 1, 3) := by decide +kernel
theorem dX12_shed_151 : decode cX12_shed 151 = .ok (.goto (-99), 3) := by decide +kernel
theorem dX12_shed_154 : decode cX12_shed 154 = .ok (.iload 5, 2) := by decide +kernel
theorem dX12_shed_156 : decode cX12_shed 156 = .ok (.ifCond .lt 8, 3) := by decide +kernel
theorem dX12_shed_159 : decode cX12_shed 159 = .ok (.iload_n 3, 1) := by decide +kernel
theorem dX12_shed_160 : decode cX12_shed 160 = .ok (.iconst 1, 1) := by decide +kernel
theorem dX12_shed_161 : decode cX12_shed 161 = .ok (.if_icmp .ne 8, 3) := by decide +kernel
theorem dX12_shed_164 : decode cX12_shed 164 = .ok (.iload 5, 2) := by decide +kernel
theorem dX12_shed_166 : decode cX12_shed 166 = .ok (.goto 8, 3) := by decide +kernel
theorem dX12_shed_169 : decode cX12_shed 169 = .ok (.iload 5, 2) := by decide +kernel
theorem dX12_shed_171 : decode cX12_shed 171 = .ok (.invokestatic 211, 3) := by decide +kernel
theorem dX12_shed_174 : decode cX12_shed 174 = .ok (.ireturn, 1) := by decide +kernel
theorem dX12_usedBehind_0 : decode cX12_usedBehind 0 = .ok (.aload_n 0, 1) := by decide +kernel
theorem dX12_usedBehind_1 : decode cX12_usedBehind 1 = .ok (.getfield 7, 3) := by decide +kernel
theorem dX12_usedBehind_4 : decode cX12_usedBehind 4 = .ok (.sipush 754, 3) := by decide +kernel
theorem dX12_usedBehind_7 : decode cX12_usedBehind 7 = .ok (.iconst 0, 1) := by decide +kernel
theorem dX12_usedBehind_8 : decode cX12_usedBehind 8 = .ok (.iastore, 1) := by decide +kernel
theorem dX12_usedBehind_9 : decode cX12_usedBehind 9 = .ok (.aload_n 0, 1) := by decide +kernel
theorem dX12_usedBehind_10 : decode cX12_usedBehind 10 = .ok (.iload_n 1, 1) := by decide +kernel
theorem dX12_usedBehind_11 : decode cX12_usedBehind 11 = .ok (.invokevirtual 202, 3) := by decide +kernel
theorem dX12_usedBehind_14 : decode cX12_usedBehind 14 = .ok (.aload_n 0, 1) := by decide +kernel
theorem dX12_usedBehind_15 : decode cX12_usedBehind 15 = .ok (.getfield 7, 3) := by decide +kernel
theorem dX12_usedBehind_18 : decode cX12_usedBehind 18 = .ok (.sipush 754, 3) := by decide +kernel
theorem dX12_usedBehind_21 : decode cX12_usedBehind 21 = .ok (.iaload, 1) := by decide +kernel
theorem dX12_usedBehind_22 : decode cX12_usedBehind 22 = .ok (.ireturn, 1) := by decide +kernel
theorem dX12_plugged_0 : decode cX12_plugged 0 = .ok (.iload_n 1, 1) := by decide +kernel
theorem dX12_plugged_1 : decode cX12_plugged 1 = .ok (.istore_n 3, 1) := by decide +kernel
theorem dX12_plugged_2 : decode cX12_plugged 2 = .ok (.aload_n 0, 1) := by decide +kernel
theorem dX12_plugged_3 : decode cX12_plugged 3 = .ok (.getfield 13, 3) := by decide +kernel
theorem dX12_plugged_6 : decode cX12_plugged 6 = .ok (.iconst 1, 1) := by decide +kernel
theorem dX12_plugged_7 : decode cX12_plugged 7 = .ok (.iaload, 1) := by decide +kernel
theorem dX12_plugged_8 : decode cX12_plugged 8 = .ok (.iconst 1, 1) := by decide +kernel
theorem dX12_plugged_9 : decode cX12_plugged 9 = .ok (.isub, 1) := by decide +kernel
theorem dX12_plugged_10 : decode cX12_plugged 10 = .ok (.istore 4, 2) := by decide +kernel
theorem dX12_plugged_12 : decode cX12_plugged 12 = .ok (.iload 4, 2) := by decide +kernel
theorem dX12_plugged_14 : decode cX12_plugged 14 = .ok (.iload_n 2, 1) := by decide +kernel
theorem dX12_plugged_15 : decode cX12_plugged 15 = .ok (.if_icmp .le 36, 3) := by decide +kernel
theorem dX12_plugged_18 : decode cX12_plugged 18 = .ok (.iload_n 3, 1) := by decide +kernel
theorem dX12_plugged_19 : decode cX12_plugged 19 = .ok (.aload_n 0, 1) := by decide +kernel
theorem dX12_plugged_20 : decode cX12_plugged 20 = .ok (.getfield 7, 3) := by decide +kernel
theorem dX12_plugged_23 : decode cX12_plugged 23 = .ok (.bipush 18, 2) := by decide +kernel
theorem dX12_plugged_25 : decode cX12_plugged 25 = .ok (.iload 4, 2) := by decide +kernel
theorem dX12_plugged_27 : decode cX12_plugged 27 = .ok (.iadd, 1) := by decide +kernel
theorem dX12_plugged_28 : decode cX12_plugged 28 = .ok (.iaload, 1) := by decide +kernel
theorem dX12_plugged_29 : decode cX12_plugged 29 = .ok (.iconst 1, 1) := by decide +kernel
theorem dX12_plugged_30 : decode cX12_plugged 30 = .ok (.if_icmp .ne 12, 3) := by decide +kernel
theorem dX12_plugged_33 : decode cX12_plugged 33 = .ok (.aload_n 0, 1) := by decide +kernel
theorem dX12_plugged_34 : decode cX12_plugged 34 = .ok (.getfield 13, 3) := by decide +kernel
theorem dX12_plugged_37 : decode cX12_plugged 37 = .ok (.iconst 0, 1) := by decide +kernel
theorem dX12_plugged_38 : decode cX12_plugged 38 = .ok (.iaload, 1) := by decide +kernel
theorem dX12_plugged_39 : decode cX12_plugged 39 = .ok (.goto 4, 3) := by decide +kernel
theorem dX12_plugged_42 : decode cX12_plugged 42 = .ok (.iconst 1, 1) := by decide +kernel
theorem dX12_plugged_43 : decode cX12_plugged 43 = .ok (.idiv, 1) := by decide +kernel
theorem dX12_plugged_44 : decode cX12_plugged 44 = .ok (.istore_n 3, 1) := by decide +kernel
theorem dX12_plugged_45 : decode cX12_plugged 45 = .ok (.iinc 4 (-1), 3) := by decide +kernel
theorem dX12_plugged_48 : decode cX12_plugged 48 = .ok (.goto (-36), 3) := by decide +kernel
theorem dX12_plugged_51 : decode cX12_plugged 51 = .ok (.aload_n 0, 1) := by decide +kernel
theorem dX12_plugged_52 : decode cX12_plugged 52 = .ok (.getfield 7, 3) := by decide +kernel
theorem dX12_plugged_55 : decode cX12_plugged 55 = .ok (.bipush 18, 2) := by decide +kernel
theorem dX12_plugged_57 : decode cX12_plugged 57 = .ok (.iload_n 2, 1) := by decide +kernel
theorem dX12_plugged_58 : decode cX12_plugged 58 = .ok (.iadd, 1) := by decide +kernel
theorem dX12_plugged_59 : decode cX12_plugged 59 = .ok (.iaload, 1) := by decide +kernel
theorem dX12_plugged_60 : decode cX12_plugged 60 = .ok (.iconst 1, 1) := by decide +kernel
theorem dX12_plugged_61 : decode cX12_plugged 61 = .ok (.if_icmp .ne 14, 3) := by decide +kernel
theorem dX12_plugged_64 : decode cX12_plugged 64 = .ok (.iload_n 3, 1) := by decide +kernel
theorem dX12_plugged_65 : decode cX12_plugged 65 = .ok (.aload_n 0, 1) := by decide +kernel
theorem dX12_plugged_66 : decode cX12_plugged 66 = .ok (.getfield 13, 3) := by decide +kernel
theorem dX12_plugged_69 : decode cX12_plugged 69 = .ok (.iconst 0, 1) := by decide +kernel
theorem dX12_plugged_70 : decode cX12_plugged 70 = .ok (.iaload, 1) := by decide +kernel
theorem dX12_plugged_71 : decode cX12_plugged 71 = .ok (.irem, 1) := by decide +kernel
theorem dX12_plugged_72 : decode cX12_plugged 72 = .ok (.goto 12, 3) := by decide +kernel
theorem dX12_plugged_75 : decode cX12_plugged 75 = .ok (.aload_n 0, 1) := by decide +kernel
theorem dX12_plugged_76 : decode cX12_plugged 76 = .ok (.getfield 7, 3) := by decide +kernel
theorem dX12_plugged_79 : decode cX12_plugged 79 = .ok (.bipush 12, 2) := by decide +kernel
theorem dX12_plugged_81 : decode cX12_plugged 81 = .ok (.iload_n 2, 1) := by decide +kernel
theorem dX12_plugged_82 : decode cX12_plugged 82 = .ok (.iadd, 1) := by decide +kernel
theorem dX12_plugged_83 : decode cX12_plugged 83 = .ok (.iaload, 1) := by decide +kernel
theorem dX12_plugged_84 : decode cX12_plugged 84 = .ok (.ireturn, 1) := by decide +kernel
theorem dX12_plugs_0 : decode cX12_plugs 0 = .ok (.aload_n 0, 1) := by decide +kernel
theorem dX12_plugs_1 : decode cX12_plugs 1 = .ok (.invokevirtual 165, 3) := by decide +kernel
theorem dX12_plugs_4 : decode cX12_plugs 4 = .ok (.ifCond .ne 6, 3) := by decide +kernel
theorem dX12_plugs_7 : decode cX12_plugs 7 = .ok (.ldc 169, 2) := by decide +kernel
theorem dX12_plugs_9 : decode cX12_plugs 9 = .ok (.ireturn, 1) := by decide +kernel
theorem dX12_plugs_10 : decode cX12_plugs 10 = .ok (.iload_n 1, 1) := by decide +kernel
theorem dX12_plugs_11 : decode cX12_plugs 11 = .ok (.i2l, 1) := by decide +kernel
theorem dX12_plugs_12 : decode cX12_plugs 12 = .ok (.lconst 1, 1) := by decide +kernel
theorem dX12_plugs_13 : decode cX12_plugs 13 = .ok (.ldc2_w 220, 3) := by decide +kernel
theorem dX12_plugs_16 : decode cX12_plugs 16 = .ok (.invokestatic 60, 3) := by decide +kernel
theorem dX12_plugs_19 : decode cX12_plugs 19 = .ok (.ifCond .eq 23, 3) := by decide +kernel
theorem dX12_plugs_22 : decode cX12_plugs 22 = .ok (.iload_n 2, 1) := by decide +kernel
theorem dX12_plugs_23 : decode cX12_plugs 23 = .ok (.i2l, 1) := by decide +kernel
theorem dX12_plugs_24 : decode cX12_plugs 24 = .ok (.ldc2_w 222, 3) := by decide +kernel
theorem dX12_plugs_27 : decode cX12_plugs 27 = .ok (.aload_n 0, 1) := by decide +kernel
theorem dX12_plugs_28 : decode cX12_plugs 28 = .ok (.getfield 13, 3) := by decide +kernel
theorem dX12_plugs_31 : decode cX12_plugs 31 = .ok (.iconst 1, 1) := by decide +kernel
theorem dX12_plugs_32 : decode cX12_plugs 32 = .ok (.iaload, 1) := by decide +kernel
theorem dX12_plugs_33 : decode cX12_plugs 33 = .ok (.iconst 1, 1) := by decide +kernel
theorem dX12_plugs_34 : decode cX12_plugs 34 = .ok (.isub, 1) := by decide +kernel
theorem dX12_plugs_35 : decode cX12_plugs 35 = .ok (.i2l, 1) := by decide +kernel
theorem dX12_plugs_36 : decode cX12_plugs 36 = .ok (.invokestatic 60, 3) := by decide +kernel
theorem dX12_plugs_39 : decode cX12_plugs 39 = .ok (.ifCond .ne 6, 3) := by decide +kernel
theorem dX12_plugs_42 : decode cX12_plugs 42 = .ok (.ldc 66, 2) := by decide +kernel
theorem dX12_plugs_44 : decode cX12_plugs 44 = .ok (.ireturn, 1) := by decide +kernel
theorem dX12_plugs_45 : decode cX12_plugs 45 = .ok (.iconst 1, 1) := by decide +kernel
theorem dX12_plugs_46 : decode cX12_plugs 46 = .ok (.istore_n 3, 1) := by decide +kernel
theorem dX12_plugs_47 : decode cX12_plugs 47 = .ok (.iconst 0, 1) := by decide +kernel
theorem dX12_plugs_48 : decode cX12_plugs 48 = .ok (.istore 4, 2) := by decide +kernel
theorem dX12_plugs_50 : decode cX12_plugs 50 = .ok (.iload 4, 2) := by decide +kernel
theorem dX12_plugs_52 : decode cX12_plugs 52 = .ok (.aload_n 0, 1) := by decide +kernel
theorem dX12_plugs_53 : decode cX12_plugs 53 = .ok (.getfield 13, 3) := by decide +kernel
theorem dX12_plugs_56 : decode cX12_plugs 56 = .ok (.iconst 1, 1) := by decide +kernel
theorem dX12_plugs_57 : decode cX12_plugs 57 = .ok (.iaload, 1) := by decide +kernel
theorem dX12_plugs_58 : decode cX12_plugs 58 = .ok (.if_icmp .ge 36, 3) := by decide +kernel
theorem dX12_plugs_61 : decode cX12_plugs 61 = .ok (.iload_n 3, 1) := by decide +kernel
theorem dX12_plugs_62 : decode cX12_plugs 62 = .ok (.aload_n 0, 1) := by decide +kernel
theorem dX12_plugs_63 : decode cX12_plugs 63 = .ok (.getfield 7, 3) := by decide +kernel
theorem dX12_plugs_66 : decode cX12_plugs 66 = .ok (.bipush 18, 2) := by decide +kernel
theorem dX12_plugs_68 : decode cX12_plugs 68 = .ok (.iload 4, 2) := by decide +kernel
theorem dX12_plugs_70 : decode cX12_plugs 70 = .ok (.iadd, 1) := by decide +kernel
theorem dX12_plugs_71 : decode cX12_plugs 71 = .ok (.iaload, 1) := by decide +kernel
theorem dX12_plugs_72 : decode cX12_plugs 72 = .ok (.iconst 1, 1) := by decide +kernel
theorem dX12_plugs_73 : decode cX12_plugs 73 = .ok (.if_icmp .ne 12, 3) := by decide +kernel
theorem dX12_plugs_76 : decode cX12_plugs 76 = .ok (.aload_n 0, 1) := by decide +kernel
theorem dX12_plugs_77 : decode cX12_plugs 77 = .ok (.getfield 13, 3) := by decide +kernel
theorem dX12_plugs_80 : decode cX12_plugs 80 = .ok (.iconst 0, 1) := by decide +kernel
theorem dX12_plugs_81 : decode cX12_plugs 81 = .ok (.iaload, 1) := by decide +kernel
theorem dX12_plugs_82 : decode cX12_plugs 82 = .ok (.goto 4, 3) := by decide +kernel
theorem dX12_plugs_85 : decode cX12_plugs 85 = .ok (.iconst 1, 1) := by decide +kernel
theorem dX12_plugs_86 : decode cX12_plugs 86 = .ok (.imul, 1) := by decide +kernel
theorem dX12_plugs_87 : decode cX12_plugs 87 = .ok (.istore_n 3, 1) := by decide +kernel
theorem dX12_plugs_88 : decode cX12_plugs 88 = .ok (.iinc 4 1, 3) := by decide +kernel
theorem dX12_plugs_91 : decode cX12_plugs 91 = .ok (.goto (-41), 3) := by decide +kernel
theorem dX12_plugs_94 : decode cX12_plugs 94 = .ok (.iconst 0, 1) := by decide +kernel
theorem dX12_plugs_95 : decode cX12_plugs 95 = .ok (.istore 4, 2) := by decide +kernel
theorem dX12_plugs_97 : decode cX12_plugs 97 = .ok (.iconst (-1), 1) := by decide +kernel
theorem dX12_plugs_98 : decode cX12_plugs 98 = .ok (.istore 5, 2) := by decide +kernel
theorem dX12_plugs_100 : decode cX12_plugs 100 = .ok (.iconst 0, 1) := by decide +kernel
theorem dX12_plugs_101 : decode cX12_plugs 101 = .ok (.istore 6, 2) := by decide +kernel
theorem dX12_plugs_103 : decode cX12_plugs 103 = .ok (.iload 6, 2) := by decide +kernel
theorem dX12_plugs_105 : decode cX12_plugs 105 = .ok (.iload_n 3, 1) := by decide +kernel
theorem dX12_plugs_106 : decode cX12_plugs 106 = .ok (.if_icmp .ge 88, 3) := by decide +kernel
theorem dX12_plugs_109 : decode cX12_plugs 109 = .ok (.aload_n 0, 1) := by decide +kernel
theorem dX12_plugs_110 : decode cX12_plugs 110 = .ok (.iconst 0, 1) := by decide +kernel
theorem dX12_plugs_111 : decode cX12_plugs 111 = .ok (.sipush 729, 3) := by decide +kernel
theorem dX12_plugs_114 : decode cX12_plugs 114 = .ok (.invokevirtual 162, 3) := by decide +kernel
theorem dX12_plugs_117 : decode cX12_plugs 117 = .ok (.iconst 0, 1) := by decide +kernel
theorem dX12_plugs_118 : decode cX12_plugs 118 = .ok (.istore 7, 2) := by decide +kernel
theorem dX12_plugs_120 : decode cX12_plugs 120 = .ok (.iload 7, 2) := by decide +kernel
theorem dX12_plugs_122 : decode cX12_plugs 122 = .ok (.aload_n 0, 1) := by decide +kernel
theorem dX12_plugs_123 : decode cX12_plugs 123 = .ok (.getfield 13, 3) := by decide +kernel
theorem dX12_plugs_126 : decode cX12_plugs 126 = .ok (.iconst 1, 1) := by decide +kernel
theorem dX12_plugs_127 : decode cX12_plugs 127 = .ok (.iaload, 1) := by decide +kernel
theorem dX12_plugs_128 : decode cX12_plugs 128 = .ok (.if_icmp .ge 28, 3) := by decide +kernel
theorem dX12_plugs_131 : decode cX12_plugs 131 = .ok (.aload_n 0, 1) := by decide +kernel
theorem dX12_plugs_132 : decode cX12_plugs 132 = .ok (.getfield 7, 3) := by decide +kernel
theorem dX12_plugs_135 : decode cX12_plugs 135 = .ok (.sipush 741, 3) := by decide +kernel
theorem dX12_plugs_138 : decode cX12_plugs 138 = .ok (.iload 7, 2) := by decide +kernel
theorem dX12_plugs_140 : decode cX12_plugs 140 = .ok (.iadd, 1) := by decide +kernel
theorem dX12_plugs_141 : decode cX12_plugs 141 = .ok (.aload_n 0, 1) := by decide +kernel
theorem dX12_plugs_142 : decode cX12_plugs 142 = .ok (.iload 6, 2) := by decide +kernel
theorem dX12_plugs_144 : decode cX12_plugs 144 = .ok (.iload 7, 2) := by decide +kernel
theorem dX12_plugs_146 : decode cX12_plugs 146 = .ok (.invokevirtual 224, 3) := by decide +kernel
theorem dX12_plugs_149 : decode cX12_plugs 149 = .ok (.iastore, 1) := by decide +kernel
theorem dX12_plugs_150 : decode cX12_plugs 150 = .ok (.iinc 7 1, 3) := by decide +kernel
theorem dX12_plugs_153 : decode cX12_plugs 153 = .ok (.goto (-33), 3) := by decide +kernel
theorem dX12_plugs_156 : decode cX12_plugs 156 = .ok (.aload_n 0, 1) := by decide +kernel
theorem dX12_plugs_157 : decode cX12_plugs 157 = .ok (.iload_n 1, 1) := by decide +kernel
theorem dX12_plugs_158 : decode cX12_plugs 158 = .ok (.invokevirtual 227, 3) := by decide +kernel
theorem dX12_plugs_161 : decode cX12_plugs 161 = .ok (.istore 7, 2) := by decide +kernel
theorem dX12_plugs_163 : decode cX12_plugs 163 = .ok (.iload 7, 2) := by decide +kernel
theorem dX12_plugs_165 : decode cX12_plugs 165 = .ok (.iload 5, 2) := by decide +kernel
theorem dX12_plugs_167 : decode cX12_plugs 167 = .ok (.if_icmp .le 8, 3) := by decide +kernel
theorem dX12_plugs_170 : decode cX12_plugs 170 = .ok (.iload 6, 2) := by decide +kernel
theorem dX12_plugs_172 : decode cX12_plugs 172 = .ok (.goto 5, 3) := by decide +kernel
theorem dX12_plugs_175 : decode cX12_plugs 175 = .ok (.iload 4, 2) := by decide +kernel
theorem dX12_plugs_177 : decode cX12_plugs 177 = .ok (.istore 4, 2) := by decide +kernel
theorem dX12_plugs_179 : decode cX12_plugs 179 = .ok (.iload 5, 2) := by decide +kernel
theorem dX12_plugs_181 : decode cX12_plugs 181 = .ok (.iload 7, 2) := by decide +kernel
theorem dX12_plugs_183 : decode cX12_plugs 183 = .ok (.invokestatic 141, 3) := by decide +kernel
theorem dX12_plugs_186 : decode cX12_plugs 186 = .ok (.istore 5, 2) := by decide +kernel
theorem dX12_plugs_188 : decode cX12_plugs 188 = .ok (.iinc 6 1, 3) := by decide +kernel
theorem dX12_plugs_191 : decode cX12_plugs 191 = .ok (.goto (-88), 3) := by decide +kernel
theorem dX12_plugs_194 : decode cX12_plugs 194 = .ok (.iload_n 2, 1) := by decide +kernel
theorem dX12_plugs_195 : decode cX12_plugs 195 = .ok (.ifCond .ge 8, 3) := by decide +kernel
theorem dX12_plugs_198 : decode cX12_plugs 198 = .ok (.iload 5, 2) := by decide +kernel
theorem dX12_plugs_200 : decode cX12_plugs 200 = .ok (.goto 10, 3) := by decide +kernel
theorem dX12_plugs_203 : decode cX12_plugs 203 = .ok (.aload_n 0, 1) := by decide +kernel
theorem dX12_plugs_204 : decode cX12_plugs 204 = .ok (.iload 4, 2) := by decide +kernel
theorem dX12_plugs_206 : decode cX12_plugs 206 = .ok (.iload_n 2, 1) := by decide +kernel
theorem dX12_plugs_207 : decode cX12_plugs 207 = .ok (.invokevirtual 224, 3) := by decide +kernel
theorem dX12_plugs_210 : decode cX12_plugs 210 = .ok (.ireturn, 1) := by decide +kernel
theorem dX12_holds_0 : decode cX12_holds 0 = .ok (.aload_n 0, 1) := by decide +kernel
theorem dX12_holds_1 : decode cX12_holds 1 = .ok (.iload_n 1, 1) := by decide +kernel
theorem dX12_holds_2 : decode cX12_holds 2 = .ok (.invokevirtual 185, 3) := by decide +kernel
theorem dX12_holds_5 : decode cX12_holds 5 = .ok (.ifCond .eq 15, 3) := by decide +kernel
theorem dX12_holds_8 : decode cX12_holds 8 = .ok (.iload_n 2, 1) := by decide +kernel
theorem dX12_holds_9 : decode cX12_holds 9 = .ok (.i2l, 1) := by decide +kernel
theorem dX12_holds_10 : decode cX12_holds 10 = .ok (.lconst 1, 1) := by decide +kernel
theorem dX12_holds_11 : decode cX12_holds 11 = .ok (.ldc2_w 206, 3) := by decide +kernel
theorem dX12_holds_14 : decode cX12_holds 14 = .ok (.invokestatic 60, 3) := by decide +kernel
theorem dX12_holds_17 : decode cX12_holds 17 = .ok (.ifCond .ne 6, 3) := by decide +kernel
theorem dX12_holds_20 : decode cX12_holds 20 = .ok (.ldc 66, 2) := by decide +kernel
theorem dX12_holds_22 : decode cX12_holds 22 = .ok (.ireturn, 1) := by decide +kernel
theorem dX12_holds_23 : decode cX12_holds 23 = .ok (.iconst 1, 1) := by decide +kernel
theorem dX12_holds_24 : decode cX12_holds 24 = .ok (.istore_n 3, 1) := by decide +kernel
theorem dX12_holds_25 : decode cX12_holds 25 = .ok (.iload_n 3, 1) := by decide +kernel
theorem dX12_holds_26 : decode cX12_holds 26 = .ok (.bipush 21, 2) := by decide +kernel
theorem dX12_holds_28 : decode cX12_holds 28 = .ok (.if_icmp .ge 39, 3) := by decide +kernel
theorem dX12_holds_31 : decode cX12_holds 31 = .ok (.aload_n 0, 1) := by decide +kernel
theorem dX12_holds_32 : decode cX12_holds 32 = .ok (.iconst 0, 1) := by decide +kernel
theorem dX12_holds_33 : decode cX12_holds 33 = .ok (.sipush 729, 3) := by decide +kernel
theorem dX12_holds_36 : decode cX12_holds 36 = .ok (.invokevirtual 162, 3) := by decide +kernel
theorem dX12_holds_39 : decode cX12_holds 39 = .ok (.aload_n 0, 1) := by decide +kernel
theorem dX12_holds_40 : decode cX12_holds 40 = .ok (.getfield 7, 3) := by decide +kernel
theorem dX12_holds_43 : decode cX12_holds 43 = .ok (.sipush 737, 3) := by decide +kernel
theorem dX12_holds_46 : decode cX12_holds 46 = .ok (.iload_n 1, 1) := by decide +kernel
theorem dX12_holds_47 : decode cX12_holds 47 = .ok (.iadd, 1) := by decide +kernel
theorem dX12_holds_48 : decode cX12_holds 48 = .ok (.iload_n 3, 1) := by decide +kernel
theorem dX12_holds_49 : decode cX12_holds 49 = .ok (.iastore, 1) := by decide +kernel
theorem dX12_holds_50 : decode cX12_holds 50 = .ok (.aload_n 0, 1) := by decide +kernel
theorem dX12_holds_51 : decode cX12_holds 51 = .ok (.iload_n 1, 1) := by decide +kernel
theorem dX12_holds_52 : decode cX12_holds 52 = .ok (.iload_n 2, 1) := by decide +kernel
theorem dX12_holds_53 : decode cX12_holds 53 = .ok (.invokevirtual 217, 3) := by decide +kernel
theorem dX12_holds_56 : decode cX12_holds 56 = .ok (.ifCond .eq 5, 3) := by decide +kernel
theorem dX12_holds_59 : decode cX12_holds 59 = .ok (.iload_n 3, 1) := by decide +kernel
theorem dX12_holds_60 : decode cX12_holds 60 = .ok (.ireturn, 1) := by decide +kernel
theorem dX12_holds_61 : decode cX12_holds 61 = .ok (.iinc 3 1, 3) := by decide +kernel
theorem dX12_holds_64 : decode cX12_holds 64 = .ok (.goto (-39), 3) := by decide +kernel
theorem dX12_holds_67 : decode cX12_holds 67 = .ok (.ldc 205, 2) := by decide +kernel
theorem dX12_holds_69 : decode cX12_holds 69 = .ok (.ireturn, 1) := by decide +kernel
theorem dX12_faulty_0 : decode cX12_faulty 0 = .ok (.aload_n 0, 1) := by decide +kernel
theorem dX12_faulty_1 : decode cX12_faulty 1 = .ok (.iload_n 1, 1) := by decide +kernel
theorem dX12_faulty_2 : decode cX12_faulty 2 = .ok (.invokevirtual 185, 3) := by decide +kernel
theorem dX12_faulty_5 : decode cX12_faulty 5 = .ok (.ifCond .eq 15, 3) := by decide +kernel
theorem dX12_faulty_8 : decode cX12_faulty 8 = .ok (.iload_n 2, 1) := by decide +kernel
theorem dX12_faulty_9 : decode cX12_faulty 9 = .ok (.i2l, 1) := by decide +kernel
theorem dX12_faulty_10 : decode cX12_faulty 10 = .ok (.lconst 1, 1) := by decide +kernel
theorem dX12_faulty_11 : decode cX12_faulty 11 = .ok (.ldc2_w 206, 3) := by decide +kernel
theorem dX12_faulty_14 : decode cX12_faulty 14 = .ok (.invokestatic 60, 3) := by decide +kernel
theorem dX12_faulty_17 : decode cX12_faulty 17 = .ok (.ifCond .ne 6, 3) := by decide +kernel
theorem dX12_faulty_20 : decode cX12_faulty 20 = .ok (.ldc 66, 2) := by decide +kernel
theorem dX12_faulty_22 : decode cX12_faulty 22 = .ok (.ireturn, 1) := by decide +kernel
theorem dX12_faulty_23 : decode cX12_faulty 23 = .ok (.iconst 0, 1) := by decide +kernel
theorem dX12_faulty_24 : decode cX12_faulty 24 = .ok (.istore_n 3, 1) := by decide +kernel
theorem dX12_faulty_25 : decode cX12_faulty 25 = .ok (.iconst 0, 1) := by decide +kernel
theorem dX12_faulty_26 : decode cX12_faulty 26 = .ok (.istore 4, 2) := by decide +kernel
theorem dX12_faulty_28 : decode cX12_faulty 28 = .ok (.iload 4, 2) := by decide +kernel
theorem dX12_faulty_30 : decode cX12_faulty 30 = .ok (.aload_n 0, 1) := by decide +kernel
theorem dX12_faulty_31 : decode cX12_faulty 31 = .ok (.getfield 13, 3) := by decide +kernel
theorem dX12_faulty_34 : decode cX12_faulty 34 = .ok (.iconst 1, 1) := by decide +kernel
theorem dX12_faulty_35 : decode cX12_faulty 35 = .ok (.iaload, 1) := by decide +kernel
theorem dX12_faulty_36 : decode cX12_faulty 36 = .ok (.if_icmp .ge 59, 3) := by decide +kernel
theorem dX12_faulty_39 : decode cX12_faulty 39 = .ok (.aload_n 0, 1) := by decide +kernel
theorem dX12_faulty_40 : decode cX12_faulty 40 = .ok (.getfield 7, 3) := by decide +kernel
theorem dX12_faulty_43 : decode cX12_faulty 43 = .ok (.bipush 18, 2) := by decide +kernel
theorem dX12_faulty_45 : decode cX12_faulty 45 = .ok (.iload 4, 2) := by decide +kernel
theorem dX12_faulty_47 : decode cX12_faulty 47 = .ok (.iadd, 1) := by decide +kernel
theorem dX12_faulty_48 : decode cX12_faulty 48 = .ok (.iaload, 1) := by decide +kernel
theorem dX12_faulty_49 : decode cX12_faulty 49 = .ok (.iconst 1, 1) := by decide +kernel
theorem dX12_faulty_50 : decode cX12_faulty 50 = .ok (.if_icmp .ne 39, 3) := by decide +kernel
theorem dX12_faulty_53 : decode cX12_faulty 53 = .ok (.aload_n 0, 1) := by decide +kernel
theorem dX12_faulty_54 : decode cX12_faulty 54 = .ok (.iconst 0, 1) := by decide +kernel
theorem dX12_faulty_55 : decode cX12_faulty 55 = .ok (.sipush 729, 3) := by decide +kernel
theorem dX12_faulty_58 : decode cX12_faulty 58 = .ok (.invokevirtual 162, 3) := by decide +kernel
theorem dX12_faulty_61 : decode cX12_faulty 61 = .ok (.aload_n 0, 1) := by decide +kernel
theorem dX12_faulty_62 : decode cX12_faulty 62 = .ok (.iconst 1, 1) := by decide +kernel
theorem dX12_faulty_63 : decode cX12_faulty 63 = .ok (.iload 4, 2) := by decide +kernel
theorem dX12_faulty_65 : decode cX12_faulty 65 = .ok (.ishl, 1) := by decide +kernel
theorem dX12_faulty_66 : decode cX12_faulty 66 = .ok (.invokevirtual 214, 3) := by decide +kernel
theorem dX12_faulty_69 : decode cX12_faulty 69 = .ok (.iload_n 3, 1) := by decide +kernel
theorem dX12_faulty_70 : decode cX12_faulty 70 = .ok (.aload_n 0, 1) := by decide +kernel
theorem dX12_faulty_71 : decode cX12_faulty 71 = .ok (.iload_n 1, 1) := by decide +kernel
theorem dX12_faulty_72 : decode cX12_faulty 72 = .ok (.iload_n 2, 1) := by decide +kernel
theorem dX12_faulty_73 : decode cX12_faulty 73 = .ok (.invokevirtual 217, 3) := by decide +kernel
theorem dX12_faulty_76 : decode cX12_faulty 76 = .ok (.ifCond .eq 10, 3) := by decide +kernel
theorem dX12_faulty_79 : decode cX12_faulty 79 = .ok (.iconst 1, 1) := by decide +kernel
theorem dX12_faulty_80 : decode cX12_faulty 80 = .ok (.iload 4, 2) := by decide +kernel
theorem dX12_faulty_82 : decode cX12_faulty 82 = .ok (.ishl, 1) := by decide +kernel
theorem dX12_faulty_83 : decode cX12_faulty 83 = .ok (.goto 4, 3) := by decide +kernel
theorem dX12_faulty_86 : decode cX12_faulty 86 = .ok (.iconst 0, 1) := by decide +kernel
theorem dX12_faulty_87 : decode cX12_faulty 87 = .ok (.ior, 1) := by decide +kernel
theorem dX12_faulty_88 : decode cX12_faulty 88 = .ok (.istore_n 3, 1) := by decide +kernel
theorem dX12_faulty_89 : decode cX12_faulty 89 = .ok (.iinc 4 1, 3) := by decide +kernel
theorem dX12_faulty_92 : decode cX12_faulty 92 = .ok (.goto (-64), 3) := by decide +kernel
theorem dX12_faulty_95 : decode cX12_faulty 95 = .ok (.iload_n 3, 1) := by decide +kernel
theorem dX12_faulty_96 : decode cX12_faulty 96 = .ok (.ireturn, 1) := by decide +kernel
theorem dX12_bill_0 : decode cX12_bill 0 = .ok (.aload_n 0, 1) := by decide +kernel
theorem dX12_bill_1 : decode cX12_bill 1 = .ok (.iload_n 1, 1) := by decide +kernel
theorem dX12_bill_2 : decode cX12_bill 2 = .ok (.invokevirtual 178, 3) := by decide +kernel
theorem dX12_bill_5 : decode cX12_bill 5 = .ok (.ifCond .eq 15, 3) := by decide +kernel
theorem dX12_bill_8 : decode cX12_bill 8 = .ok (.iload_n 2, 1) := by decide +kernel
theorem dX12_bill_9 : decode cX12_bill 9 = .ok (.i2l, 1) := by decide +kernel
theorem dX12_bill_10 : decode cX12_bill 10 = .ok (.lconst 0, 1) := by decide +kernel
theorem dX12_bill_11 : decode cX12_bill 11 = .ok (.ldc2_w 230, 3) := by decide +kernel
theorem dX12_bill_14 : decode cX12_bill 14 = .ok (.invokestatic 60, 3) := by decide +kernel
theorem dX12_bill_17 : decode cX12_bill 17 = .ok (.ifCond .ne 6, 3) := by decide +kernel
theorem dX12_bill_20 : decode cX12_bill 20 = .ok (.ldc 66, 2) := by decide +kernel
theorem dX12_bill_22 : decode cX12_bill 22 = .ok (.ireturn, 1) := by decide +kernel
theorem dX12_bill_23 : decode cX12_bill 23 = .ok (.iconst 0, 1) := by decide +kernel
theorem dX12_bill_24 : decode cX12_bill 24 = .ok (.istore_n 3, 1) := by decide +kernel
theorem dX12_bill_25 : decode cX12_bill 25 = .ok (.iconst 0, 1) := by decide +kernel
theorem dX12_bill_26 : decode cX12_bill 26 = .ok (.istore 4, 2) := by decide +kernel
theorem dX12_bill_28 : decode cX12_bill 28 = .ok (.iload 4, 2) := by decide +kernel
theorem dX12_bill_30 : decode cX12_bill 30 = .ok (.aload_n 0, 1) := by decide +kernel
theorem dX12_bill_31 : decode cX12_bill 31 = .ok (.getfield 13, 3) := by decide +kernel
theorem dX12_bill_34 : decode cX12_bill 34 = .ok (.iconst 1, 1) := by decide +kernel
theorem dX12_bill_35 : decode cX12_bill 35 = .ok (.iaload, 1) := by decide +kernel
theorem dX12_bill_36 : decode cX12_bill 36 = .ok (.if_icmp .ge 36, 3) := by decide +kernel
theorem dX12_bill_39 : decode cX12_bill 39 = .ok (.iload_n 3, 1) := by decide +kernel
theorem dX12_bill_40 : decode cX12_bill 40 = .ok (.aload_n 0, 1) := by decide +kernel
theorem dX12_bill_41 : decode cX12_bill 41 = .ok (.iconst 0, 1) := by decide +kernel
theorem dX12_bill_42 : decode cX12_bill 42 = .ok (.iload 4, 2) := by decide +kernel
theorem dX12_bill_44 : decode cX12_bill 44 = .ok (.invokevirtual 138, 3) := by decide +kernel
theorem dX12_bill_47 : decode cX12_bill 47 = .ok (.ifCond .eq 16, 3) := by decide +kernel
theorem dX12_bill_50 : decode cX12_bill 50 = .ok (.aload_n 0, 1) := by decide +kernel
theorem dX12_bill_51 : decode cX12_bill 51 = .ok (.getfield 13, 3) := by decide +kernel
theorem dX12_bill_54 : decode cX12_bill 54 = .ok (.bipush 7, 2) := by decide +kernel
theorem dX12_bill_56 : decode cX12_bill 56 = .ok (.iload 4, 2) := by decide +kernel
theorem dX12_bill_58 : decode cX12_bill 58 = .ok (.iadd, 1) := by decide +kernel
theorem dX12_bill_59 : decode cX12_bill 59 = .ok (.iaload, 1) := by decide +kernel
theorem dX12_bill_60 : decode cX12_bill 60 = .ok (.goto 4, 3) := by decide +kernel
theorem dX12_bill_63 : decode cX12_bill 63 = .ok (.iconst 0, 1) := by decide +kernel
theorem dX12_bill_64 : decode cX12_bill 64 = .ok (.iadd, 1) := by decide +kernel
theorem dX12_bill_65 : decode cX12_bill 65 = .ok (.istore_n 3, 1) := by decide +kernel
theorem dX12_bill_66 : decode cX12_bill 66 = .ok (.iinc 4 1, 3) := by decide +kernel
theorem dX12_bill_69 : decode cX12_bill 69 = .ok (.goto (-41), 3) := by decide +kernel
theorem dX12_bill_72 : decode cX12_bill 72 = .ok (.iload_n 2, 1) := by decide +kernel
theorem dX12_bill_73 : decode cX12_bill 73 = .ok (.istore 4, 2) := by decide +kernel
theorem dX12_bill_75 : decode cX12_bill 75 = .ok (.iconst 0, 1) := by decide +kernel
theorem dX12_bill_76 : decode cX12_bill 76 = .ok (.istore 5, 2) := by decide +kernel
theorem dX12_bill_78 : decode cX12_bill 78 = .ok (.iconst 0, 1) := by decide +kernel
theorem dX12_bill_79 : decode cX12_bill 79 = .ok (.istore 6, 2) := by decide +kernel
theorem dX12_bill_81 : decode cX12_bill 81 = .ok (.iload 6, 2) := by decide +kernel
theorem dX12_bill_83 : decode cX12_bill 83 = .ok (.aload_n 0, 1) := by decide +kernel
theorem dX12_bill_84 : decode cX12_bill 84 = .ok (.getfield 13, 3) := by decide +kernel
theorem dX12_bill_87 : decode cX12_bill 87 = .ok (.iconst 1, 1) := by decide +kernel
theorem dX12_bill_88 : decode cX12_bill 88 = .ok (.iaload, 1) := by decide +kernel
theorem dX12_bill_89 : decode cX12_bill 89 = .ok (.if_icmp .ge 68, 3) := by decide +kernel
theorem dX12_bill_92 : decode cX12_bill 92 = .ok (.iload 4, 2) := by decide +kernel
theorem dX12_bill_94 : decode cX12_bill 94 = .ok (.aload_n 0, 1) := by decide +kernel
theorem dX12_bill_95 : decode cX12_bill 95 = .ok (.iconst 0, 1) := by decide +kernel
theorem dX12_bill_96 : decode cX12_bill 96 = .ok (.iload 6, 2) := by decide +kernel
theorem dX12_bill_98 : decode cX12_bill 98 = .ok (.invokevirtual 138, 3) := by decide +kernel
theorem dX12_bill_101 : decode cX12_bill 101 = .ok (.ifCond .eq 20, 3) := by decide +kernel
theorem dX12_bill_104 : decode cX12_bill 104 = .ok (.iload_n 2, 1) := by decide +kernel
theorem dX12_bill_105 : decode cX12_bill 105 = .ok (.aload_n 0, 1) := by decide +kernel
theorem dX12_bill_106 : decode cX12_bill 106 = .ok (.getfield 13, 3) := by decide +kernel
theorem dX12_bill_109 : decode cX12_bill 109 = .ok (.bipush 7, 2) := by decide +kernel
theorem dX12_bill_111 : decode cX12_bill 111 = .ok (.iload 6, 2) := by decide +kernel
theorem dX12_bill_113 : decode cX12_bill 113 = .ok (.iadd, 1) := by decide +kernel
theorem dX12_bill_114 : decode cX12_bill 114 = .ok (.iaload, 1) := by decide +kernel
theorem dX12_bill_115 : decode cX12_bill 115 = .ok (.imul, 1) := by decide +kernel
theorem dX12_bill_116 : decode cX12_bill 116 = .ok (.iload_n 3, 1) := by decide +kernel
theorem dX12_bill_117 : decode cX12_bill 117 = .ok (.idiv, 1) := by decide +kernel
theorem dX12_bill_118 : decode cX12_bill 118 = .ok (.goto 4, 3) := by decide +kernel
theorem dX12_bill_121 : decode cX12_bill 121 = .ok (.iconst 0, 1) := by decide +kernel
theorem dX12_bill_122 : decode cX12_bill 122 = .ok (.isub, 1) := by decide +kernel
theorem dX12_bill_123 : decode cX12_bill 123 = .ok (.istore 4, 2) := by decide +kernel
theorem dX12_bill_125 : decode cX12_bill 125 = .ok (.iload 5, 2) := by decide +kernel
theorem dX12_bill_127 : decode cX12_bill 127 = .ok (.iload 6, 2) := by decide +kernel
theorem dX12_bill_129 : decode cX12_bill 129 = .ok (.iload_n 1, 1) := by decide +kernel
theorem dX12_bill_130 : decode cX12_bill 130 = .ok (.if_icmp .ge 17, 3) := by decide +kernel
theorem dX12_bill_133 : decode cX12_bill 133 = .ok (.aload_n 0, 1) := by decide +kernel
theorem dX12_bill_134 : decode cX12_bill 134 = .ok (.iconst 0, 1) := by decide +kernel
theorem dX12_bill_135 : decode cX12_bill 135 = .ok (.iload 6, 2) := by decide +kernel
theorem dX12_bill_137 : decode cX12_bill 137 = .ok (.invokevirtual 138, 3) := by decide +kernel
theorem dX12_bill_140 : decode cX12_bill 140 = .ok (.ifCond .eq 7, 3) := by decide +kernel
theorem dX12_bill_143 : decode cX12_bill 143 = .ok (.iconst 1, 1) := by decide +kernel
theorem dX12_bill_144 : decode cX12_bill 144 = .ok (.goto 4, 3) := by decide +kernel
theorem dX12_bill_147 : decode cX12_bill 147 = .ok (.iconst 0, 1) := by decide +kernel
theorem dX12_bill_148 : decode cX12_bill 148 = .ok (.iadd, 1) := by decide +kernel
theorem dX12_bill_149 : decode cX12_bill 149 = .ok (.istore 5, 2) := by decide +kernel
theorem dX12_bill_151 : decode cX12_bill 151 = .ok (.iinc 6 1, 3) := by decide +kernel
theorem dX12_bill_154 : decode cX12_bill 154 = .ok (.goto (-73), 3) := by decide +kernel
theorem dX12_bill_157 : decode cX12_bill 157 = .ok (.aload_n 0, 1) := by decide +kernel
theorem dX12_bill_158 : decode cX12_bill 158 = .ok (.iconst 0, 1) := by decide +kernel
theorem dX12_bill_159 : decode cX12_bill 159 = .ok (.iload_n 1, 1) := by decide +kernel
theorem dX12_bill_160 : decode cX12_bill 160 = .ok (.invokevirtual 138, 3) := by decide +kernel
theorem dX12_bill_163 : decode cX12_bill 163 = .ok (.ifCond .eq 32, 3) := by decide +kernel
theorem dX12_bill_166 : decode cX12_bill 166 = .ok (.iload_n 2, 1) := by decide +kernel
theorem dX12_bill_167 : decode cX12_bill 167 = .ok (.aload_n 0, 1) := by decide +kernel
theorem dX12_bill_168 : decode cX12_bill 168 = .ok (.getfield 13, 3) := by decide +kernel
theorem dX12_bill_171 : decode cX12_bill 171 = .ok (.bipush 7, 2) := by decide +kernel
theorem dX12_bill_173 : decode cX12_bill 173 = .ok (.iload_n 1, 1) := by decide +kernel
theorem dX12_bill_174 : decode cX12_bill 174 = .ok (.iadd, 1) := by decide +kernel
theorem dX12_bill_175 : decode cX12_bill 175 = .ok (.iaload, 1) := by decide +kernel
theorem dX12_bill_176 : decode cX12_bill 176 = .ok (.imul, 1) := by decide +kernel
theorem dX12_bill_177 : decode cX12_bill 177 = .ok (.iload_n 3, 1) := by decide +kernel
theorem dX12_bill_178 : decode cX12_bill 178 = .ok (.idiv, 1) := by decide +kernel
theorem dX12_bill_179 : decode cX12_bill 179 = .ok (.iload 5, 2) := by decide +kernel
theorem dX12_bill_181 : decode cX12_bill 181 = .ok (.iload 4, 2) := by decide +kernel
theorem dX12_bill_183 : decode cX12_bill 183 = .ok (.if_icmp .ge 7, 3) := by decide +kernel
theorem dX12_bill_186 : decode cX12_bill 186 = .ok (.iconst 1, 1) := by decide +kernel
theorem dX12_bill_187 : decode cX12_bill 187 = .ok (.goto 4, 3) := by decide +kernel
theorem dX12_bill_190 : decode cX12_bill 190 = .ok (.iconst 0, 1) := by decide +kernel
theorem dX12_bill_191 : decode cX12_bill 191 = .ok (.iadd, 1) := by decide +kernel
theorem dX12_bill_192 : decode cX12_bill 192 = .ok (.goto 4, 3) := by decide +kernel
theorem dX12_bill_195 : decode cX12_bill 195 = .ok (.iconst 0, 1) := by decide +kernel
theorem dX12_bill_196 : decode cX12_bill 196 = .ok (.ireturn, 1) := by decide +kernel
theorem dX12_isSo_0 : decode cX12_isSo 0 = .ok (.iconst 1, 1) := by decide +kernel
theorem dX12_isSo_1 : decode cX12_isSo 1 = .ok (.istore 5, 2) := by decide +kernel
theorem dX12_isSo_3 : decode cX12_isSo 3 = .ok (.iconst 0, 1) := by decide +kernel
theorem dX12_isSo_4 : decode cX12_isSo 4 = .ok (.istore 6, 2) := by decide +kernel
theorem dX12_isSo_6 : decode cX12_isSo 6 = .ok (.iload 6, 2) := by decide +kernel
theorem dX12_isSo_8 : decode cX12_isSo 8 = .ok (.iload 4, 2) := by decide +kernel
theorem dX12_isSo_10 : decode cX12_isSo 10 = .ok (.if_icmp .ge 53, 3) := by decide +kernel
theorem dX12_isSo_13 : decode cX12_isSo 13 = .ok (.aload_n 0, 1) := by decide +kernel
theorem dX12_isSo_14 : decode cX12_isSo 14 = .ok (.iconst 1, 1) := by decide +kernel
theorem dX12_isSo_15 : decode cX12_isSo 15 = .ok (.invokevirtual 202, 3) := by decide +kernel
theorem dX12_isSo_18 : decode cX12_isSo 18 = .ok (.iload 5, 2) := by decide +kernel
theorem dX12_isSo_20 : decode cX12_isSo 20 = .ok (.ifCond .eq 34, 3) := by decide +kernel
theorem dX12_isSo_23 : decode cX12_isSo 23 = .ok (.aload_n 0, 1) := by decide +kernel
theorem dX12_isSo_24 : decode cX12_isSo 24 = .ok (.getfield 7, 3) := by decide +kernel
theorem dX12_isSo_27 : decode cX12_isSo 27 = .ok (.sipush 729, 3) := by decide +kernel
theorem dX12_isSo_30 : decode cX12_isSo 30 = .ok (.iload_n 1, 1) := by decide +kernel
theorem dX12_isSo_31 : decode cX12_isSo 31 = .ok (.iadd, 1) := by decide +kernel
theorem dX12_isSo_32 : decode cX12_isSo 32 = .ok (.iaload, 1) := by decide +kernel
theorem dX12_isSo_33 : decode cX12_isSo 33 = .ok (.aload_n 0, 1) := by decide +kernel
theorem dX12_isSo_34 : decode cX12_isSo 34 = .ok (.getfield 25, 3) := by decide +kernel
theorem dX12_isSo_37 : decode cX12_isSo 37 = .ok (.bipush 40, 2) := by decide +kernel
theorem dX12_isSo_39 : decode cX12_isSo 39 = .ok (.iload_n 2, 1) := by decide +kernel
theorem dX12_isSo_40 : decode cX12_isSo 40 = .ok (.imul, 1) := by decide +kernel
theorem dX12_isSo_41 : decode cX12_isSo 41 = .ok (.iload_n 3, 1) := by decide +kernel
theorem dX12_isSo_42 : decode cX12_isSo 42 = .ok (.iadd, 1) := by decide +kernel
theorem dX12_isSo_43 : decode cX12_isSo 43 = .ok (.iload 6, 2) := by decide +kernel
theorem dX12_isSo_45 : decode cX12_isSo 45 = .ok (.iadd, 1) := by decide +kernel
theorem dX12_isSo_46 : decode cX12_isSo 46 = .ok (.iaload, 1) := by decide +kernel
theorem dX12_isSo_47 : decode cX12_isSo 47 = .ok (.if_icmp .ne 7, 3) := by decide +kernel
theorem dX12_isSo_50 : decode cX12_isSo 50 = .ok (.iconst 1, 1) := by decide +kernel
theorem dX12_isSo_51 : decode cX12_isSo 51 = .ok (.goto 4, 3) := by decide +kernel
theorem dX12_isSo_54 : decode cX12_isSo 54 = .ok (.iconst 0, 1) := by decide +kernel
theorem dX12_isSo_55 : decode cX12_isSo 55 = .ok (.istore 5, 2) := by decide +kernel
theorem dX12_isSo_57 : decode cX12_isSo 57 = .ok (.iinc 6 1, 3) := by decide +kernel
theorem dX12_isSo_60 : decode cX12_isSo 60 = .ok (.goto (-54), 3) := by decide +kernel
theorem dX12_isSo_63 : decode cX12_isSo 63 = .ok (.iload 5, 2) := by decide +kernel
theorem dX12_isSo_65 : decode cX12_isSo 65 = .ok (.ireturn, 1) := by decide +kernel
theorem dX12_sorts_0 : decode cX12_sorts 0 = .ok (.aload_n 0, 1) := by decide +kernel
theorem dX12_sorts_1 : decode cX12_sorts 1 = .ok (.getfield 13, 3) := by decide +kernel
theorem dX12_sorts_4 : decode cX12_sorts 4 = .ok (.iconst 3, 1) := by decide +kernel
theorem dX12_sorts_5 : decode cX12_sorts 5 = .ok (.iload_n 1, 1) := by decide +kernel
theorem dX12_sorts_6 : decode cX12_sorts 6 = .ok (.iadd, 1) := by decide +kernel
theorem dX12_sorts_7 : decode cX12_sorts 7 = .ok (.iaload, 1) := by decide +kernel
theorem dX12_sorts_8 : decode cX12_sorts 8 = .ok (.istore 5, 2) := by decide +kernel
theorem dX12_sorts_10 : decode cX12_sorts 10 = .ok (.iconst 0, 1) := by decide +kernel
theorem dX12_sorts_11 : decode cX12_sorts 11 = .ok (.istore 6, 2) := by decide +kernel
theorem dX12_sorts_13 : decode cX12_sorts 13 = .ok (.iconst 1, 1) := by decide +kernel
theorem dX12_sorts_14 : decode cX12_sorts 14 = .ok (.istore 7, 2) := by decide +kernel
theorem dX12_sorts_16 : decode cX12_sorts 16 = .ok (.iload 7, 2) := by decide +kernel
theorem dX12_sorts_18 : decode cX12_sorts 18 = .ok (.bipush 6, 2) := by decide +kernel
theorem dX12_sorts_20 : decode cX12_sorts 20 = .ok (.if_icmp .ge 100, 3) := by decide +kernel
theorem dX12_sorts_23 : decode cX12_sorts 23 = .ok (.aload_n 0, 1) := by decide +kernel
theorem dX12_sorts_24 : decode cX12_sorts 24 = .ok (.iconst 0, 1) := by decide +kernel
theorem dX12_sorts_25 : decode cX12_sorts 25 = .ok (.sipush 729, 3) := by decide +kernel
theorem dX12_sorts_28 : decode cX12_sorts 28 = .ok (.invokevirtual 162, 3) := by decide +kernel
theorem dX12_sorts_31 : decode cX12_sorts 31 = .ok (.aload_n 0, 1) := by decide +kernel
theorem dX12_sorts_32 : decode cX12_sorts 32 = .ok (.getfield 7, 3) := by decide +kernel
theorem dX12_sorts_35 : decode cX12_sorts 35 = .ok (.iconst 4, 1) := by decide +kernel
theorem dX12_sorts_36 : decode cX12_sorts 36 = .ok (.iload_n 1, 1) := by decide +kernel
theorem dX12_sorts_37 : decode cX12_sorts 37 = .ok (.iadd, 1) := by decide +kernel
theorem dX12_sorts_38 : decode cX12_sorts 38 = .ok (.iaload, 1) := by decide +kernel
theorem dX12_sorts_39 : decode cX12_sorts 39 = .ok (.istore 8, 2) := by decide +kernel
theorem dX12_sorts_41 : decode cX12_sorts 41 = .ok (.aload_n 0, 1) := by decide +kernel
theorem dX12_sorts_42 : decode cX12_sorts 42 = .ok (.getfield 7, 3) := by decide +kernel
theorem dX12_sorts_45 : decode cX12_sorts 45 = .ok (.sipush 733, 3) := by decide +kernel
theorem dX12_sorts_48 : decode cX12_sorts 48 = .ok (.iload_n 1, 1) := by decide +kernel
theorem dX12_sorts_49 : decode cX12_sorts 49 = .ok (.iadd, 1) := by decide +kernel
theorem dX12_sorts_50 : decode cX12_sorts 50 = .ok (.iload 8, 2) := by decide +kernel
theorem dX12_sorts_52 : decode cX12_sorts 52 = .ok (.ifCond .eq 10, 3) := by decide +kernel
theorem dX12_sorts_55 : decode cX12_sorts 55 = .ok (.iload 7, 2) := by decide +kernel
theorem dX12_sorts_57 : decode cX12_sorts 57 = .ok (.iload 5, 2) := by decide +kernel
theorem dX12_sorts_59 : decode cX12_sorts 59 = .ok (.if_icmp .ne 8, 3) := by decide +kernel
theorem dX12_sorts_62 : decode cX12_sorts 62 = .ok (.iload 8, 2) := by decide +kernel
theorem dX12_sorts_64 : decode cX12_sorts 64 = .ok (.goto 14, 3) := by decide +kernel
theorem dX12_sorts_67 : decode cX12_sorts 67 = .ok (.iload 7, 2) := by decide +kernel
theorem dX12_sorts_69 : decode cX12_sorts 69 = .ok (.iconst 5, 1) := by decide +kernel
theorem dX12_sorts_70 : decode cX12_sorts 70 = .ok (.if_icmp .ne 7, 3) := by decide +kernel
theorem dX12_sorts_73 : decode cX12_sorts 73 = .ok (.iconst 3, 1) := by decide +kernel
theorem dX12_sorts_74 : decode cX12_sorts 74 = .ok (.goto 4, 3) := by decide +kernel
theorem dX12_sorts_77 : decode cX12_sorts 77 = .ok (.iconst 1, 1) := by decide +kernel
theorem dX12_sorts_78 : decode cX12_sorts 78 = .ok (.iastore, 1) := by decide +kernel
theorem dX12_sorts_79 : decode cX12_sorts 79 = .ok (.aload_n 0, 1) := by decide +kernel
theorem dX12_sorts_80 : decode cX12_sorts 80 = .ok (.getfield 13, 3) := by decide +kernel
theorem dX12_sorts_83 : decode cX12_sorts 83 = .ok (.iconst 3, 1) := by decide +kernel
theorem dX12_sorts_84 : decode cX12_sorts 84 = .ok (.iload_n 1, 1) := by decide +kernel
theorem dX12_sorts_85 : decode cX12_sorts 85 = .ok (.iadd, 1) := by decide +kernel
theorem dX12_sorts_86 : decode cX12_sorts 86 = .ok (.iload 7, 2) := by decide +kernel
theorem dX12_sorts_88 : decode cX12_sorts 88 = .ok (.iastore, 1) := by decide +kernel
theorem dX12_sorts_89 : decode cX12_sorts 89 = .ok (.iload 6, 2) := by decide +kernel
theorem dX12_sorts_91 : decode cX12_sorts 91 = .ok (.aload_n 0, 1) := by decide +kernel
theorem dX12_sorts_92 : decode cX12_sorts 92 = .ok (.iload_n 1, 1) := by decide +kernel
theorem dX12_sorts_93 : decode cX12_sorts 93 = .ok (.iload_n 2, 1) := by decide +kernel
theorem dX12_sorts_94 : decode cX12_sorts 94 = .ok (.iload_n 3, 1) := by decide +kernel
theorem dX12_sorts_95 : decode cX12_sorts 95 = .ok (.iload 4, 2) := by decide +kernel
theorem dX12_sorts_97 : decode cX12_sorts 97 = .ok (.invokevirtual 232, 3) := by decide +kernel
theorem dX12_sorts_100 : decode cX12_sorts 100 = .ok (.ifCond .eq 10, 3) := by decide +kernel
theorem dX12_sorts_103 : decode cX12_sorts 103 = .ok (.iconst 1, 1) := by decide +kernel
theorem dX12_sorts_104 : decode cX12_sorts 104 = .ok (.iload 7, 2) := by decide +kernel
theorem dX12_sorts_106 : decode cX12_sorts 106 = .ok (.ishl, 1) := by decide +kernel
theorem dX12_sorts_107 : decode cX12_sorts 107 = .ok (.goto 4, 3) := by decide +kernel
theorem dX12_sorts_110 : decode cX12_sorts 110 = .ok (.iconst 0, 1) := by decide +kernel
theorem dX12_sorts_111 : decode cX12_sorts 111 = .ok (.ior, 1) := by decide +kernel
theorem dX12_sorts_112 : decode cX12_sorts 112 = .ok (.istore 6, 2) := by decide +kernel
theorem dX12_sorts_114 : decode cX12_sorts 114 = .ok (.iinc 7 1, 3) := by decide +kernel
theorem dX12_sorts_117 : decode cX12_sorts 117 = .ok (.goto (-101), 3) := by decide +kernel
theorem dX12_sorts_120 : decode cX12_sorts 120 = .ok (.aload_n 0, 1) := by decide +kernel
theorem dX12_sorts_121 : decode cX12_sorts 121 = .ok (.getfield 13, 3) := by decide +kernel
theorem dX12_sorts_124 : decode cX12_sorts 124 = .ok (.iconst 3, 1) := by decide +kernel
theorem dX12_sorts_125 : decode cX12_sorts 125 = .ok (.iload_n 1, 1) := by decide +kernel
theorem dX12_sorts_126 : decode cX12_sorts 126 = .ok (.iadd, 1) := by decide +kernel
theorem dX12_sorts_127 : decode cX12_sorts 127 = .ok (.iload 5, 2) := by decide +kernel
theorem dX12_sorts_129 : decode cX12_sorts 129 = .ok (.iastore, 1) := by decide +kernel
theorem dX12_sorts_130 : decode cX12_sorts 130 = .ok (.iload 6, 2) := by decide +kernel
theorem dX12_sorts_132 : decode cX12_sorts 132 = .ok (.ireturn, 1) := by decide +kernel
theorem dX12_mainsThat_0 : decode cX12_mainsThat 0 = .ok (.aload_n 0, 1) := by decide +kernel
theorem dX12_mainsThat_1 : decode cX12_mainsThat 1 = .ok (.getfield 13, 3) := by decide +kernel
theorem dX12_mainsThat_4 : decode cX12_mainsThat 4 = .ok (.iconst 2, 1) := by decide +kernel
theorem dX12_mainsThat_5 : decode cX12_mainsThat 5 = .ok (.iaload, 1) := by decide +kernel
theorem dX12_mainsThat_6 : decode cX12_mainsThat 6 = .ok (.istore 6, 2) := by decide +kernel
theorem dX12_mainsThat_8 : decode cX12_mainsThat 8 = .ok (.iconst 0, 1) := by decide +kernel
theorem dX12_mainsThat_9 : decode cX12_mainsThat 9 = .ok (.istore 7, 2) := by decide +kernel
theorem dX12_mainsThat_11 : decode cX12_mainsThat 11 = .ok (.ldc 205, 2) := by decide +kernel
theorem dX12_mainsThat_13 : decode cX12_mainsThat 13 = .ok (.istore 8, 2) := by decide +kernel
theorem dX12_mainsThat_15 : decode cX12_mainsThat 15 = .ok (.bipush 60, 2) := by decide +kernel
theorem dX12_mainsThat_17 : decode cX12_mainsThat 17 = .ok (.istore 9, 2) := by decide +kernel
theorem dX12_mainsThat_19 : decode cX12_mainsThat 19 = .ok (.iload 9, 2) := by decide +kernel
theorem dX12_mainsThat_21 : decode cX12_mainsThat 21 = .ok (.ifCond .le 65, 3) := by decide +kernel
theorem dX12_mainsThat_24 : decode cX12_mainsThat 24 = .ok (.aload_n 0, 1) := by decide +kernel
theorem dX12_mainsThat_25 : decode cX12_mainsThat 25 = .ok (.iconst 0, 1) := by decide +kernel
theorem dX12_mainsThat_26 : decode cX12_mainsThat 26 = .ok (.sipush 729, 3) := by decide +kernel
theorem dX12_mainsThat_29 : decode cX12_mainsThat 29 = .ok (.invokevirtual 162, 3) := by decide +kernel
theorem dX12_mainsThat_32 : decode cX12_mainsThat 32 = .ok (.aload_n 0, 1) := by decide +kernel
theorem dX12_mainsThat_33 : decode cX12_mainsThat 33 = .ok (.getfield 13, 3) := by decide +kernel
theorem dX12_mainsThat_36 : decode cX12_mainsThat 36 = .ok (.iconst 2, 1) := by decide +kernel
theorem dX12_mainsThat_37 : decode cX12_mainsThat 37 = .ok (.iload 9, 2) := by decide +kernel
theorem dX12_mainsThat_39 : decode cX12_mainsThat 39 = .ok (.iastore, 1) := by decide +kernel
theorem dX12_mainsThat_40 : decode cX12_mainsThat 40 = .ok (.aload_n 0, 1) := by decide +kernel
theorem dX12_mainsThat_41 : decode cX12_mainsThat 41 = .ok (.iload_n 1, 1) := by decide +kernel
theorem dX12_mainsThat_42 : decode cX12_mainsThat 42 = .ok (.iload_n 2, 1) := by decide +kernel
theorem dX12_mainsThat_43 : decode cX12_mainsThat 43 = .ok (.iload_n 3, 1) := by decide +kernel
theorem dX12_mainsThat_44 : decode cX12_mainsThat 44 = .ok (.iload 4, 2) := by decide +kernel
theorem dX12_mainsThat_46 : decode cX12_mainsThat 46 = .ok (.invokevirtual 232, 3) := by decide +kernel
theorem dX12_mainsThat_49 : decode cX12_mainsThat 49 = .ok (.istore 10, 2) := by decide +kernel
theorem dX12_mainsThat_51 : decode cX12_mainsThat 51 = .ok (.iload 7, 2) := by decide +kernel
theorem dX12_mainsThat_53 : decode cX12_mainsThat 53 = .ok (.iload 10, 2) := by decide +kernel
theorem dX12_mainsThat_55 : decode cX12_mainsThat 55 = .ok (.ifCond .eq 7, 3) := by decide +kernel
theorem dX12_mainsThat_58 : decode cX12_mainsThat 58 = .ok (.iconst 1, 1) := by decide +kernel
theorem dX12_mainsThat_59 : decode cX12_mainsThat 59 = .ok (.goto 4, 3) := by decide +kernel
theorem dX12_mainsThat_62 : decode cX12_mainsThat 62 = .ok (.iconst 0, 1) := by decide +kernel
theorem dX12_mainsThat_63 : decode cX12_mainsThat 63 = .ok (.iadd, 1) := by decide +kernel
theorem dX12_mainsThat_64 : decode cX12_mainsThat 64 = .ok (.istore 7, 2) := by decide +kernel
theorem dX12_mainsThat_66 : decode cX12_mainsThat 66 = .ok (.iload 10, 2) := by decide +kernel
theorem dX12_mainsThat_68 : decode cX12_mainsThat 68 = .ok (.ifCond .eq 8, 3) := by decide +kernel
theorem dX12_mainsThat_71 : decode cX12_mainsThat 71 = .ok (.iload 9, 2) := by decide +kernel
theorem dX12_mainsThat_73 : decode cX12_mainsThat 73 = .ok (.goto 5, 3) := by decide +kernel
theorem dX12_mainsThat_76 : decode cX12_mainsThat 76 = .ok (.iload 8, 2) := by decide +kernel
theorem dX12_mainsThat_78 : decode cX12_mainsThat 78 = .ok (.istore 8, 2) := by decide +kernel
theorem dX12_mainsThat_80 : decode cX12_mainsThat 80 = .ok (.iinc 9 (-1), 3) := by decide +kernel
theorem dX12_mainsThat_83 : decode cX12_mainsThat 83 = .ok (.goto (-64), 3) := by decide +kernel
theorem dX12_mainsThat_86 : decode cX12_mainsThat 86 = .ok (.aload_n 0, 1) := by decide +kernel
theorem dX12_mainsThat_87 : decode cX12_mainsThat 87 = .ok (.getfield 13, 3) := by decide +kernel
theorem dX12_mainsThat_90 : decode cX12_mainsThat 90 = .ok (.iconst 2, 1) := by decide +kernel
theorem dX12_mainsThat_91 : decode cX12_mainsThat 91 = .ok (.iload 6, 2) := by decide +kernel
theorem dX12_mainsThat_93 : decode cX12_mainsThat 93 = .ok (.iastore, 1) := by decide +kernel
theorem dX12_mainsThat_94 : decode cX12_mainsThat 94 = .ok (.iload 5, 2) := by decide +kernel
theorem dX12_mainsThat_96 : decode cX12_mainsThat 96 = .ok (.ifCond .eq 8, 3) := by decide +kernel
theorem dX12_mainsThat_99 : decode cX12_mainsThat 99 = .ok (.iload 8, 2) := by decide +kernel
theorem dX12_mainsThat_101 : decode cX12_mainsThat 101 = .ok (.goto 5, 3) := by decide +kernel
theorem dX12_mainsThat_104 : decode cX12_mainsThat 104 = .ok (.iload 7, 2) := by decide +kernel
theorem dX12_mainsThat_106 : decode cX12_mainsThat 106 = .ok (.ireturn, 1) := by decide +kernel
theorem dX12_fits_0 : decode cX12_fits 0 = .ok (.aload_n 0, 1) := by decide +kernel
theorem dX12_fits_1 : decode cX12_fits 1 = .ok (.iload_n 1, 1) := by decide +kernel
theorem dX12_fits_2 : decode cX12_fits 2 = .ok (.invokevirtual 185, 3) := by decide +kernel
theorem dX12_fits_5 : decode cX12_fits 5 = .ok (.ifCond .eq 41, 3) := by decide +kernel
theorem dX12_fits_8 : decode cX12_fits 8 = .ok (.iload_n 2, 1) := by decide +kernel
theorem dX12_fits_9 : decode cX12_fits 9 = .ok (.i2l, 1) := by decide +kernel
theorem dX12_fits_10 : decode cX12_fits 10 = .ok (.lconst 0, 1) := by decide +kernel
theorem dX12_fits_11 : decode cX12_fits 11 = .ok (.ldc2_w 58, 3) := by decide +kernel
theorem dX12_fits_14 : decode cX12_fits 14 = .ok (.invokestatic 60, 3) := by decide +kernel
theorem dX12_fits_17 : decode cX12_fits 17 = .ok (.ifCond .eq 29, 3) := by decide +kernel
theorem dX12_fits_20 : decode cX12_fits 20 = .ok (.iload 4, 2) := by decide +kernel
theorem dX12_fits_22 : decode cX12_fits 22 = .ok (.i2l, 1) := by decide +kernel
theorem dX12_fits_23 : decode cX12_fits 23 = .ok (.lconst 1, 1) := by decide +kernel
theorem dX12_fits_24 : decode cX12_fits 24 = .ok (.ldc2_w 220, 3) := by decide +kernel
theorem dX12_fits_27 : decode cX12_fits 27 = .ok (.invokestatic 60, 3) := by decide +kernel
theorem dX12_fits_30 : decode cX12_fits 30 = .ok (.ifCond .eq 16, 3) := by decide +kernel
theorem dX12_fits_33 : decode cX12_fits 33 = .ok (.iload 5, 2) := by decide +kernel
theorem dX12_fits_35 : decode cX12_fits 35 = .ok (.i2l, 1) := by decide +kernel
theorem dX12_fits_36 : decode cX12_fits 36 = .ok (.lconst 0, 1) := by decide +kernel
theorem dX12_fits_37 : decode cX12_fits 37 = .ok (.ldc2_w 236, 3) := by decide +kernel
theorem dX12_fits_40 : decode cX12_fits 40 = .ok (.invokestatic 60, 3) := by decide +kernel
theorem dX12_fits_43 : decode cX12_fits 43 = .ok (.ifCond .ne 6, 3) := by decide +kernel
theorem dX12_fits_46 : decode cX12_fits 46 = .ok (.ldc 66, 2) := by decide +kernel
theorem dX12_fits_48 : decode cX12_fits 48 = .ok (.ireturn, 1) := by decide +kernel
theorem dX12_fits_49 : decode cX12_fits 49 = .ok (.aload_n 0, 1) := by decide +kernel
theorem dX12_fits_50 : decode cX12_fits 50 = .ok (.getfield 22, 3) := by decide +kernel
theorem dX12_fits_53 : decode cX12_fits 53 = .ok (.iload_n 2, 1) := by decide +kernel
theorem dX12_fits_54 : decode cX12_fits 54 = .ok (.iaload, 1) := by decide +kernel
theorem dX12_fits_55 : decode cX12_fits 55 = .ok (.ifCond .ge 9, 3) := by decide +kernel
theorem dX12_fits_58 : decode cX12_fits 58 = .ok (.aload_n 0, 1) := by decide +kernel
theorem dX12_fits_59 : decode cX12_fits 59 = .ok (.iconst 1, 1) := by decide +kernel
theorem dX12_fits_60 : decode cX12_fits 60 = .ok (.invokevirtual 67, 3) := by decide +kernel
theorem dX12_fits_63 : decode cX12_fits 63 = .ok (.ireturn, 1) := by decide +kernel
theorem dX12_fits_64 : decode cX12_fits 64 = .ok (.iload_n 3, 1) := by decide +kernel
theorem dX12_fits_65 : decode cX12_fits 65 = .ok (.ifCond .lt 20, 3) := by decide +kernel
theorem dX12_fits_68 : decode cX12_fits 68 = .ok (.iload_n 3, 1) := by decide +kernel
theorem dX12_fits_69 : decode cX12_fits 69 = .ok (.i2l, 1) := by decide +kernel
theorem dX12_fits_70 : decode cX12_fits 70 = .ok (.iload 4, 2) := by decide +kernel
theorem dX12_fits_72 : decode cX12_fits 72 = .ok (.i2l, 1) := by decide +kernel
theorem dX12_fits_73 : decode cX12_fits 73 = .ok (.ladd, 1) := by decide +kernel
theorem dX12_fits_74 : decode cX12_fits 74 = .ok (.aload_n 0, 1) := by decide +kernel
theorem dX12_fits_75 : decode cX12_fits 75 = .ok (.getfield 22, 3) := by decide +kernel
theorem dX12_fits_78 : decode cX12_fits 78 = .ok (.iload_n 2, 1) := by decide +kernel
theorem dX12_fits_79 : decode cX12_fits 79 = .ok (.iaload, 1) := by decide +kernel
theorem dX12_fits_80 : decode cX12_fits 80 = .ok (.i2l, 1) := by decide +kernel
theorem dX12_fits_81 : decode cX12_fits 81 = .ok (.lcmp, 1) := by decide +kernel
theorem dX12_fits_82 : decode cX12_fits 82 = .ok (.ifCond .le 9, 3) := by decide +kernel
theorem dX12_fits_85 : decode cX12_fits 85 = .ok (.aload_n 0, 1) := by decide +kernel
theorem dX12_fits_86 : decode cX12_fits 86 = .ok (.iconst 2, 1) := by decide +kernel
theorem dX12_fits_87 : decode cX12_fits 87 = .ok (.invokevirtual 67, 3) := by decide +kernel
theorem dX12_fits_90 : decode cX12_fits 90 = .ok (.ireturn, 1) := by decide +kernel
theorem dX12_fits_91 : decode cX12_fits 91 = .ok (.iload 5, 2) := by decide +kernel
theorem dX12_fits_93 : decode cX12_fits 93 = .ok (.ifCond .eq 9, 3) := by decide +kernel
theorem dX12_fits_96 : decode cX12_fits 96 = .ok (.iload 5, 2) := by decide +kernel
theorem dX12_fits_98 : decode cX12_fits 98 = .ok (.iconst 2, 1) := by decide +kernel
theorem dX12_fits_99 : decode cX12_fits 99 = .ok (.if_icmp .le 45, 3) := by decide +kernel
