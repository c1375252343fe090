theorem dX4_foretellLine_0 : decode cX4_foretellLine 0 = .ok (.aload_n 0, 1) := by decide +kernel
theorem dX4_foretellLine_1 : decode cX4_foretellLine 1 = .ok (.getfield 24, 3) := by decide +kernel
theorem dX4_foretellLine_4 : decode cX4_foretellLine 4 = .ok (.invokevirtual 47, 3) := by decide +kernel
theorem dX4_foretellLine_7 : decode cX4_foretellLine 7 = .ok (.istore_n 2, 1) := by decide +kernel
theorem dX4_foretellLine_8 : decode cX4_foretellLine 8 = .ok (.iconst 0, 1) := by decide +kernel
theorem dX4_foretellLine_9 : decode cX4_foretellLine 9 = .ok (.istore_n 3, 1) := by decide +kernel
theorem dX4_foretellLine_10 : decode cX4_foretellLine 10 = .ok (.iload_n 3, 1) := by decide +kernel
theorem dX4_foretellLine_11 : decode cX4_foretellLine 11 = .ok (.iload_n 2, 1) := by decide +kernel
theorem dX4_foretellLine_12 : decode cX4_foretellLine 12 = .ok (.if_icmp .gt 39, 3) := by decide +kernel
theorem dX4_foretellLine_15 : decode cX4_foretellLine 15 = .ok (.iload_n 3, 1) := by decide +kernel
theorem dX4_foretellLine_16 : decode cX4_foretellLine 16 = .ok (.bipush 121, 2) := by decide +kernel
theorem dX4_foretellLine_18 : decode cX4_foretellLine 18 = .ok (.if_icmp .ge 33, 3) := by decide +kernel
theorem dX4_foretellLine_21 : decode cX4_foretellLine 21 = .ok (.aload_n 0, 1) := by decide +kernel
theorem dX4_foretellLine_22 : decode cX4_foretellLine 22 = .ok (.getfield 11, 3) := by decide +kernel
theorem dX4_foretellLine_25 : decode cX4_foretellLine 25 = .ok (.iload_n 1, 1) := by decide +kernel
theorem dX4_foretellLine_26 : decode cX4_foretellLine 26 = .ok (.bipush 121, 2) := by decide +kernel
theorem dX4_foretellLine_28 : decode cX4_foretellLine 28 = .ok (.imul, 1) := by decide +kernel
theorem dX4_foretellLine_29 : decode cX4_foretellLine 29 = .ok (.iload_n 3, 1) := by decide +kernel
theorem dX4_foretellLine_30 : decode cX4_foretellLine 30 = .ok (.iadd, 1) := by decide +kernel
theorem dX4_foretellLine_31 : decode cX4_foretellLine 31 = .ok (.aload_n 0, 1) := by decide +kernel
theorem dX4_foretellLine_32 : decode cX4_foretellLine 32 = .ok (.getfield 24, 3) := by decide +kernel
theorem dX4_foretellLine_35 : decode cX4_foretellLine 35 = .ok (.iload_n 1, 1) := by decide +kernel
theorem dX4_foretellLine_36 : decode cX4_foretellLine 36 = .ok (.iload_n 3, 1) := by decide +kernel
theorem dX4_foretellLine_37 : decode cX4_foretellLine 37 = .ok (.aload_n 0, 1) := by decide +kernel
theorem dX4_foretellLine_38 : decode cX4_foretellLine 38 = .ok (.getfield 28, 3) := by decide +kernel
theorem dX4_foretellLine_41 : decode cX4_foretellLine 41 = .ok (.invokevirtual 51, 3) := by decide +kernel
theorem dX4_foretellLine_44 : decode cX4_foretellLine 44 = .ok (.iastore, 1) := by decide +kernel
theorem dX4_foretellLine_45 : decode cX4_foretellLine 45 = .ok (.iinc 3 1, 3) := by decide +kernel
theorem dX4_foretellLine_48 : decode cX4_foretellLine 48 = .ok (.goto (-38), 3) := by decide +kernel
theorem dX4_foretellLine_51 : decode cX4_foretellLine 51 = .ok (.return_, 1) := by decide +kernel
theorem dX4_liveMinutes_0 : decode cX4_liveMinutes 0 = .ok (.aload_n 0, 1) := by decide +kernel
theorem dX4_liveMinutes_1 : decode cX4_liveMinutes 1 = .ok (.getfield 11, 3) := by decide +kernel
theorem dX4_liveMinutes_4 : decode cX4_liveMinutes 4 = .ok (.iload_n 1, 1) := by decide +kernel
theorem dX4_liveMinutes_5 : decode cX4_liveMinutes 5 = .ok (.bipush 121, 2) := by decide +kernel
theorem dX4_liveMinutes_7 : decode cX4_liveMinutes 7 = .ok (.imul, 1) := by decide +kernel
theorem dX4_liveMinutes_8 : decode cX4_liveMinutes 8 = .ok (.aload_n 0, 1) := by decide +kernel
theorem dX4_liveMinutes_9 : decode cX4_liveMinutes 9 = .ok (.getfield 15, 3) := by decide +kernel
theorem dX4_liveMinutes_12 : decode cX4_liveMinutes 12 = .ok (.iload_n 1, 1) := by decide +kernel
theorem dX4_liveMinutes_13 : decode cX4_liveMinutes 13 = .ok (.iaload, 1) := by decide +kernel
theorem dX4_liveMinutes_14 : decode cX4_liveMinutes 14 = .ok (.iadd, 1) := by decide +kernel
theorem dX4_liveMinutes_15 : decode cX4_liveMinutes 15 = .ok (.iaload, 1) := by decide +kernel
theorem dX4_liveMinutes_16 : decode cX4_liveMinutes 16 = .ok (.ireturn, 1) := by decide +kernel
theorem dX4_usedUntilMainIsOut_0 : decode cX4_usedUntilMainIsOut 0 = .ok (.iconst 0, 1) := by decide +kernel
theorem dX4_usedUntilMainIsOut_1 : decode cX4_usedUntilMainIsOut 1 = .ok (.istore_n 1, 1) := by decide +kernel
theorem dX4_usedUntilMainIsOut_2 : decode cX4_usedUntilMainIsOut 2 = .ok (.iconst 0, 1) := by decide +kernel
theorem dX4_usedUntilMainIsOut_3 : decode cX4_usedUntilMainIsOut 3 = .ok (.istore_n 2, 1) := by decide +kernel
theorem dX4_usedUntilMainIsOut_4 : decode cX4_usedUntilMainIsOut 4 = .ok (.iconst 0, 1) := by decide +kernel
theorem dX4_usedUntilMainIsOut_5 : decode cX4_usedUntilMainIsOut 5 = .ok (.istore_n 3, 1) := by decide +kernel
theorem dX4_usedUntilMainIsOut_6 : decode cX4_usedUntilMainIsOut 6 = .ok (.iload_n 3, 1) := by decide +kernel
theorem dX4_usedUntilMainIsOut_7 : decode cX4_usedUntilMainIsOut 7 = .ok (.aload_n 0, 1) := by decide +kernel
theorem dX4_usedUntilMainIsOut_8 : decode cX4_usedUntilMainIsOut 8 = .ok (.getfield 28, 3) := by decide +kernel
theorem dX4_usedUntilMainIsOut_11 : decode cX4_usedUntilMainIsOut 11 = .ok (.if_icmp .ge 68, 3) := by decide +kernel
theorem dX4_usedUntilMainIsOut_14 : decode cX4_usedUntilMainIsOut 14 = .ok (.iload_n 2, 1) := by decide +kernel
theorem dX4_usedUntilMainIsOut_15 : decode cX4_usedUntilMainIsOut 15 = .ok (.aload_n 0, 1) := by decide +kernel
theorem dX4_usedUntilMainIsOut_16 : decode cX4_usedUntilMainIsOut 16 = .ok (.getfield 24, 3) := by decide +kernel
theorem dX4_usedUntilMainIsOut_19 : decode cX4_usedUntilMainIsOut 19 = .ok (.getfield 88, 3) := by decide +kernel
theorem dX4_usedUntilMainIsOut_22 : decode cX4_usedUntilMainIsOut 22 = .ok (.if_icmp .gt 57, 3) := by decide +kernel
theorem dX4_usedUntilMainIsOut_25 : decode cX4_usedUntilMainIsOut 25 = .ok (.iconst 0, 1) := by decide +kernel
theorem dX4_usedUntilMainIsOut_26 : decode cX4_usedUntilMainIsOut 26 = .ok (.istore_n 2, 1) := by decide +kernel
theorem dX4_usedUntilMainIsOut_27 : decode cX4_usedUntilMainIsOut 27 = .ok (.iconst 0, 1) := by decide +kernel
theorem dX4_usedUntilMainIsOut_28 : decode cX4_usedUntilMainIsOut 28 = .ok (.istore 4, 2) := by decide +kernel
theorem dX4_usedUntilMainIsOut_30 : decode cX4_usedUntilMainIsOut 30 = .ok (.iload 4, 2) := by decide +kernel
theorem dX4_usedUntilMainIsOut_32 : decode cX4_usedUntilMainIsOut 32 = .ok (.aload_n 0, 1) := by decide +kernel
theorem dX4_usedUntilMainIsOut_33 : decode cX4_usedUntilMainIsOut 33 = .ok (.getfield 24, 3) := by decide +kernel
theorem dX4_usedUntilMainIsOut_36 : decode cX4_usedUntilMainIsOut 36 = .ok (.getfield 35, 3) := by decide +kernel
theorem dX4_usedUntilMainIsOut_39 : decode cX4_usedUntilMainIsOut 39 = .ok (.if_icmp .ge 30, 3) := by decide +kernel
theorem dX4_usedUntilMainIsOut_42 : decode cX4_usedUntilMainIsOut 42 = .ok (.iload_n 2, 1) := by decide +kernel
theorem dX4_usedUntilMainIsOut_43 : decode cX4_usedUntilMainIsOut 43 = .ok (.aload_n 0, 1) := by decide +kernel
theorem dX4_usedUntilMainIsOut_44 : decode cX4_usedUntilMainIsOut 44 = .ok (.iload 4, 2) := by decide +kernel
theorem dX4_usedUntilMainIsOut_46 : decode cX4_usedUntilMainIsOut 46 = .ok (.invokevirtual 80, 3) := by decide +kernel
theorem dX4_usedUntilMainIsOut_49 : decode cX4_usedUntilMainIsOut 49 = .ok (.iload_n 3, 1) := by decide +kernel
theorem dX4_usedUntilMainIsOut_50 : decode cX4_usedUntilMainIsOut 50 = .ok (.ishr, 1) := by decide +kernel
theorem dX4_usedUntilMainIsOut_51 : decode cX4_usedUntilMainIsOut 51 = .ok (.iconst 1, 1) := by decide +kernel
theorem dX4_usedUntilMainIsOut_52 : decode cX4_usedUntilMainIsOut 52 = .ok (.iand, 1) := by decide +kernel
theorem dX4_usedUntilMainIsOut_53 : decode cX4_usedUntilMainIsOut 53 = .ok (.aload_n 0, 1) := by decide +kernel
theorem dX4_usedUntilMainIsOut_54 : decode cX4_usedUntilMainIsOut 54 = .ok (.getfield 15, 3) := by decide +kernel
theorem dX4_usedUntilMainIsOut_57 : decode cX4_usedUntilMainIsOut 57 = .ok (.iload 4, 2) := by decide +kernel
theorem dX4_usedUntilMainIsOut_59 : decode cX4_usedUntilMainIsOut 59 = .ok (.iaload, 1) := by decide +kernel
theorem dX4_usedUntilMainIsOut_60 : decode cX4_usedUntilMainIsOut 60 = .ok (.imul, 1) := by decide +kernel
theorem dX4_usedUntilMainIsOut_61 : decode cX4_usedUntilMainIsOut 61 = .ok (.iadd, 1) := by decide +kernel
theorem dX4_usedUntilMainIsOut_62 : decode cX4_usedUntilMainIsOut 62 = .ok (.istore_n 2, 1) := by decide +kernel
theorem dX4_usedUntilMainIsOut_63 : decode cX4_usedUntilMainIsOut 63 = .ok (.iinc 4 1, 3) := by decide +kernel
theorem dX4_usedUntilMainIsOut_66 : decode cX4_usedUntilMainIsOut 66 = .ok (.goto (-36), 3) := by decide +kernel
theorem dX4_usedUntilMainIsOut_69 : decode cX4_usedUntilMainIsOut 69 = .ok (.iload_n 1, 1) := by decide +kernel
theorem dX4_usedUntilMainIsOut_70 : decode cX4_usedUntilMainIsOut 70 = .ok (.iload_n 2, 1) := by decide +kernel
theorem dX4_usedUntilMainIsOut_71 : decode cX4_usedUntilMainIsOut 71 = .ok (.iadd, 1) := by decide +kernel
theorem dX4_usedUntilMainIsOut_72 : decode cX4_usedUntilMainIsOut 72 = .ok (.istore_n 1, 1) := by decide +kernel
theorem dX4_usedUntilMainIsOut_73 : decode cX4_usedUntilMainIsOut 73 = .ok (.iinc 3 1, 3) := by decide +kernel
theorem dX4_usedUntilMainIsOut_76 : decode cX4_usedUntilMainIsOut 76 = .ok (.goto (-70), 3) := by decide +kernel
theorem dX4_usedUntilMainIsOut_79 : decode cX4_usedUntilMainIsOut 79 = .ok (.iload_n 1, 1) := by decide +kernel
theorem dX4_usedUntilMainIsOut_80 : decode cX4_usedUntilMainIsOut 80 = .ok (.ireturn, 1) := by decide +kernel
theorem dX4_usedThen_0 : decode cX4_usedThen 0 = .ok (.iconst 0, 1) := by decide +kernel
theorem dX4_usedThen_1 : decode cX4_usedThen 1 = .ok (.istore_n 1, 1) := by decide +kernel
theorem dX4_usedThen_2 : decode cX4_usedThen 2 = .ok (.iconst 0, 1) := by decide +kernel
theorem dX4_usedThen_3 : decode cX4_usedThen 3 = .ok (.istore_n 2, 1) := by decide +kernel
theorem dX4_usedThen_4 : decode cX4_usedThen 4 = .ok (.iconst 0, 1) := by decide +kernel
theorem dX4_usedThen_5 : decode cX4_usedThen 5 = .ok (.istore_n 3, 1) := by decide +kernel
theorem dX4_usedThen_6 : decode cX4_usedThen 6 = .ok (.iload_n 3, 1) := by decide +kernel
theorem dX4_usedThen_7 : decode cX4_usedThen 7 = .ok (.aload_n 0, 1) := by decide +kernel
theorem dX4_usedThen_8 : decode cX4_usedThen 8 = .ok (.getfield 24, 3) := by decide +kernel
theorem dX4_usedThen_11 : decode cX4_usedThen 11 = .ok (.getfield 35, 3) := by decide +kernel
theorem dX4_usedThen_14 : decode cX4_usedThen 14 = .ok (.if_icmp .ge 36, 3) := by decide +kernel
theorem dX4_usedThen_17 : decode cX4_usedThen 17 = .ok (.iload_n 1, 1) := by decide +kernel
theorem dX4_usedThen_18 : decode cX4_usedThen 18 = .ok (.aload_n 0, 1) := by decide +kernel
theorem dX4_usedThen_19 : decode cX4_usedThen 19 = .ok (.getfield 15, 3) := by decide +kernel
theorem dX4_usedThen_22 : decode cX4_usedThen 22 = .ok (.iload_n 3, 1) := by decide +kernel
theorem dX4_usedThen_23 : decode cX4_usedThen 23 = .ok (.iaload, 1) := by decide +kernel
theorem dX4_usedThen_24 : decode cX4_usedThen 24 = .ok (.iadd, 1) := by decide +kernel
theorem dX4_usedThen_25 : decode cX4_usedThen 25 = .ok (.istore_n 1, 1) := by decide +kernel
theorem dX4_usedThen_26 : decode cX4_usedThen 26 = .ok (.iload_n 2, 1) := by decide +kernel
theorem dX4_usedThen_27 : decode cX4_usedThen 27 = .ok (.aload_n 0, 1) := by decide +kernel
theorem dX4_usedThen_28 : decode cX4_usedThen 28 = .ok (.getfield 15, 3) := by decide +kernel
theorem dX4_usedThen_31 : decode cX4_usedThen 31 = .ok (.iload_n 3, 1) := by decide +kernel
theorem dX4_usedThen_32 : decode cX4_usedThen 32 = .ok (.iaload, 1) := by decide +kernel
theorem dX4_usedThen_33 : decode cX4_usedThen 33 = .ok (.aload_n 0, 1) := by decide +kernel
theorem dX4_usedThen_34 : decode cX4_usedThen 34 = .ok (.iload_n 3, 1) := by decide +kernel
theorem dX4_usedThen_35 : decode cX4_usedThen 35 = .ok (.invokevirtual 80, 3) := by decide +kernel
theorem dX4_usedThen_38 : decode cX4_usedThen 38 = .ok (.invokestatic 83, 3) := by decide +kernel
theorem dX4_usedThen_41 : decode cX4_usedThen 41 = .ok (.imul, 1) := by decide +kernel
theorem dX4_usedThen_42 : decode cX4_usedThen 42 = .ok (.iadd, 1) := by decide +kernel
theorem dX4_usedThen_43 : decode cX4_usedThen 43 = .ok (.istore_n 2, 1) := by decide +kernel
theorem dX4_usedThen_44 : decode cX4_usedThen 44 = .ok (.iinc 3 1, 3) := by decide +kernel
theorem dX4_usedThen_47 : decode cX4_usedThen 47 = .ok (.goto (-41), 3) := by decide +kernel
theorem dX4_usedThen_50 : decode cX4_usedThen 50 = .ok (.iload_n 1, 1) := by decide +kernel
theorem dX4_usedThen_51 : decode cX4_usedThen 51 = .ok (.aload_n 0, 1) := by decide +kernel
theorem dX4_usedThen_52 : decode cX4_usedThen 52 = .ok (.getfield 24, 3) := by decide +kernel
theorem dX4_usedThen_55 : decode cX4_usedThen 55 = .ok (.getfield 88, 3) := by decide +kernel
theorem dX4_usedThen_58 : decode cX4_usedThen 58 = .ok (.if_icmp .le 10, 3) := by decide +kernel
theorem dX4_usedThen_61 : decode cX4_usedThen 61 = .ok (.aload_n 0, 1) := by decide +kernel
theorem dX4_usedThen_62 : decode cX4_usedThen 62 = .ok (.invokevirtual 91, 3) := by decide +kernel
theorem dX4_usedThen_65 : decode cX4_usedThen 65 = .ok (.goto 4, 3) := by decide +kernel
theorem dX4_usedThen_68 : decode cX4_usedThen 68 = .ok (.iload_n 2, 1) := by decide +kernel
theorem dX4_usedThen_69 : decode cX4_usedThen 69 = .ok (.ireturn, 1) := by decide +kernel
theorem dX4_weigh_0 : decode cX4_weigh 0 = .ok (.aload_n 0, 1) := by decide +kernel
theorem dX4_weigh_1 : decode cX4_weigh 1 = .ok (.invokevirtual 71, 3) := by decide +kernel
theorem dX4_weigh_4 : decode cX4_weigh 4 = .ok (.istore_n 1, 1) := by decide +kernel
theorem dX4_weigh_5 : decode cX4_weigh 5 = .ok (.iload_n 1, 1) := by decide +kernel
theorem dX4_weigh_6 : decode cX4_weigh 6 = .ok (.aload_n 0, 1) := by decide +kernel
theorem dX4_weigh_7 : decode cX4_weigh 7 = .ok (.getfield 32, 3) := by decide +kernel
theorem dX4_weigh_10 : decode cX4_weigh 10 = .ok (.if_icmp .le 23, 3) := by decide +kernel
theorem dX4_weigh_13 : decode cX4_weigh 13 = .ok (.aload_n 0, 1) := by decide +kernel
theorem dX4_weigh_14 : decode cX4_weigh 14 = .ok (.iload_n 1, 1) := by decide +kernel
theorem dX4_weigh_15 : decode cX4_weigh 15 = .ok (.putfield 32, 3) := by decide +kernel
theorem dX4_weigh_18 : decode cX4_weigh 18 = .ok (.aload_n 0, 1) := by decide +kernel
theorem dX4_weigh_19 : decode cX4_weigh 19 = .ok (.getfield 18, 3) := by decide +kernel
theorem dX4_weigh_22 : decode cX4_weigh 22 = .ok (.iconst 0, 1) := by decide +kernel
theorem dX4_weigh_23 : decode cX4_weigh 23 = .ok (.aload_n 0, 1) := by decide +kernel
theorem dX4_weigh_24 : decode cX4_weigh 24 = .ok (.getfield 21, 3) := by decide +kernel
theorem dX4_weigh_27 : decode cX4_weigh 27 = .ok (.iconst 0, 1) := by decide +kernel
theorem dX4_weigh_28 : decode cX4_weigh 28 = .ok (.bipush 6, 2) := by decide +kernel
theorem dX4_weigh_30 : decode cX4_weigh 30 = .ok (.invokestatic 74, 3) := by decide +kernel
theorem dX4_weigh_33 : decode cX4_weigh 33 = .ok (.return_, 1) := by decide +kernel
theorem dX4_plugFrom_0 : decode cX4_plugFrom 0 = .ok (.iload_n 1, 1) := by decide +kernel
theorem dX4_plugFrom_1 : decode cX4_plugFrom 1 = .ok (.aload_n 0, 1) := by decide +kernel
theorem dX4_plugFrom_2 : decode cX4_plugFrom 2 = .ok (.getfield 24, 3) := by decide +kernel
theorem dX4_plugFrom_5 : decode cX4_plugFrom 5 = .ok (.getfield 55, 3) := by decide +kernel
theorem dX4_plugFrom_8 : decode cX4_plugFrom 8 = .ok (.if_icmp .ge 9, 3) := by decide +kernel
theorem dX4_plugFrom_11 : decode cX4_plugFrom 11 = .ok (.iload_n 1, 1) := by decide +kernel
theorem dX4_plugFrom_12 : decode cX4_plugFrom 12 = .ok (.bipush 6, 2) := by decide +kernel
theorem dX4_plugFrom_14 : decode cX4_plugFrom 14 = .ok (.if_icmp .lt 8, 3) := by decide +kernel
theorem dX4_plugFrom_17 : decode cX4_plugFrom 17 = .ok (.aload_n 0, 1) := by decide +kernel
theorem dX4_plugFrom_18 : decode cX4_plugFrom 18 = .ok (.invokevirtual 58, 3) := by decide +kernel
theorem dX4_plugFrom_21 : decode cX4_plugFrom 21 = .ok (.return_, 1) := by decide +kernel
theorem dX4_plugFrom_22 : decode cX4_plugFrom 22 = .ok (.aload_n 0, 1) := by decide +kernel
theorem dX4_plugFrom_23 : decode cX4_plugFrom 23 = .ok (.getfield 24, 3) := by decide +kernel
theorem dX4_plugFrom_26 : decode cX4_plugFrom 26 = .ok (.iload_n 1, 1) := by decide +kernel
theorem dX4_plugFrom_27 : decode cX4_plugFrom 27 = .ok (.invokevirtual 61, 3) := by decide +kernel
theorem dX4_plugFrom_30 : decode cX4_plugFrom 30 = .ok (.ifCond .ne 26, 3) := by decide +kernel
theorem dX4_plugFrom_33 : decode cX4_plugFrom 33 = .ok (.aload_n 0, 1) := by decide +kernel
theorem dX4_plugFrom_34 : decode cX4_plugFrom 34 = .ok (.getfield 18, 3) := by decide +kernel
theorem dX4_plugFrom_37 : decode cX4_plugFrom 37 = .ok (.iload_n 1, 1) := by decide +kernel
theorem dX4_plugFrom_38 : decode cX4_plugFrom 38 = .ok (.aload_n 0, 1) := by decide +kernel
theorem dX4_plugFrom_39 : decode cX4_plugFrom 39 = .ok (.getfield 24, 3) := by decide +kernel
theorem dX4_plugFrom_42 : decode cX4_plugFrom 42 = .ok (.getfield 65, 3) := by decide +kernel
theorem dX4_plugFrom_45 : decode cX4_plugFrom 45 = .ok (.iload_n 1, 1) := by decide +kernel
theorem dX4_plugFrom_46 : decode cX4_plugFrom 46 = .ok (.iaload, 1) := by decide +kernel
theorem dX4_plugFrom_47 : decode cX4_plugFrom 47 = .ok (.iastore, 1) := by decide +kernel
theorem dX4_plugFrom_48 : decode cX4_plugFrom 48 = .ok (.aload_n 0, 1) := by decide +kernel
theorem dX4_plugFrom_49 : decode cX4_plugFrom 49 = .ok (.iload_n 1, 1) := by decide +kernel
theorem dX4_plugFrom_50 : decode cX4_plugFrom 50 = .ok (.iconst 1, 1) := by decide +kernel
theorem dX4_plugFrom_51 : decode cX4_plugFrom 51 = .ok (.iadd, 1) := by decide +kernel
theorem dX4_plugFrom_52 : decode cX4_plugFrom 52 = .ok (.invokevirtual 44, 3) := by decide +kernel
theorem dX4_plugFrom_55 : decode cX4_plugFrom 55 = .ok (.return_, 1) := by decide +kernel
theorem dX4_plugFrom_56 : decode cX4_plugFrom 56 = .ok (.iconst 0, 1) := by decide +kernel
theorem dX4_plugFrom_57 : decode cX4_plugFrom 57 = .ok (.istore_n 2, 1) := by decide +kernel
theorem dX4_plugFrom_58 : decode cX4_plugFrom 58 = .ok (.iload_n 2, 1) := by decide +kernel
theorem dX4_plugFrom_59 : decode cX4_plugFrom 59 = .ok (.aload_n 0, 1) := by decide +kernel
theorem dX4_plugFrom_60 : decode cX4_plugFrom 60 = .ok (.getfield 24, 3) := by decide +kernel
theorem dX4_plugFrom_63 : decode cX4_plugFrom 63 = .ok (.getfield 35, 3) := by decide +kernel
theorem dX4_plugFrom_66 : decode cX4_plugFrom 66 = .ok (.if_icmp .ge 59, 3) := by decide +kernel
theorem dX4_plugFrom_69 : decode cX4_plugFrom 69 = .ok (.aload_n 0, 1) := by decide +kernel
theorem dX4_plugFrom_70 : decode cX4_plugFrom 70 = .ok (.getfield 18, 3) := by decide +kernel
theorem dX4_plugFrom_73 : decode cX4_plugFrom 73 = .ok (.iload_n 1, 1) := by decide +kernel
theorem dX4_plugFrom_74 : decode cX4_plugFrom 74 = .ok (.iload_n 2, 1) := by decide +kernel
theorem dX4_plugFrom_75 : decode cX4_plugFrom 75 = .ok (.iastore, 1) := by decide +kernel
theorem dX4_plugFrom_76 : decode cX4_plugFrom 76 = .ok (.aload_n 0, 1) := by decide +kernel
theorem dX4_plugFrom_77 : decode cX4_plugFrom 77 = .ok (.getfield 15, 3) := by decide +kernel
theorem dX4_plugFrom_80 : decode cX4_plugFrom 80 = .ok (.iload_n 2, 1) := by decide +kernel
theorem dX4_plugFrom_81 : decode cX4_plugFrom 81 = .ok (.dup2, 1) := by decide +kernel
theorem dX4_plugFrom_82 : decode cX4_plugFrom 82 = .ok (.iaload, 1) := by decide +kernel
theorem dX4_plugFrom_83 : decode cX4_plugFrom 83 = .ok (.aload_n 0, 1) := by decide +kernel
theorem dX4_plugFrom_84 : decode cX4_plugFrom 84 = .ok (.getfield 24, 3) := by decide +kernel
theorem dX4_plugFrom_87 : decode cX4_plugFrom 87 = .ok (.getfield 68, 3) := by decide +kernel
theorem dX4_plugFrom_90 : decode cX4_plugFrom 90 = .ok (.iload_n 1, 1) := by decide +kernel
theorem dX4_plugFrom_91 : decode cX4_plugFrom 91 = .ok (.iaload, 1) := by decide +kernel
theorem dX4_plugFrom_92 : decode cX4_plugFrom 92 = .ok (.iadd, 1) := by decide +kernel
theorem dX4_plugFrom_93 : decode cX4_plugFrom 93 = .ok (.iastore, 1) := by decide +kernel
theorem dX4_plugFrom_94 : decode cX4_plugFrom 94 = .ok (.aload_n 0, 1) := by decide +kernel
theorem dX4_plugFrom_95 : decode cX4_plugFrom 95 = .ok (.iload_n 1, 1) := by decide +kernel
theorem dX4_plugFrom_96 : decode cX4_plugFrom 96 = .ok (.iconst 1, 1) := by decide +kernel
theorem dX4_plugFrom_97 : decode cX4_plugFrom 97 = .ok (.iadd, 1) := by decide +kernel
theorem dX4_plugFrom_98 : decode cX4_plugFrom 98 = .ok (.invokevirtual 44, 3) := by decide +kernel
theorem dX4_plugFrom_101 : decode cX4_plugFrom 101 = .ok (.aload_n 0, 1) := by decide +kernel
theorem dX4_plugFrom_102 : decode cX4_plugFrom 102 = .ok (.getfield 15, 3) := by decide +kernel
theorem dX4_plugFrom_105 : decode cX4_plugFrom 105 = .ok (.iload_n 2, 1) := by decide +kernel
theorem dX4_plugFrom_106 : decode cX4_plugFrom 106 = .ok (.dup2, 1) := by decide +kernel
theorem dX4_plugFrom_107 : decode cX4_plugFrom 107 = .ok (.iaload, 1) := by decide +kernel
theorem dX4_plugFrom_108 : decode cX4_plugFrom 108 = .ok (.aload_n 0, 1) := by decide +kernel
theorem dX4_plugFrom_109 : decode cX4_plugFrom 109 = .ok (.getfield 24, 3) := by decide +kernel
theorem dX4_plugFrom_112 : decode cX4_plugFrom 112 = .ok (.getfield 68, 3) := by decide +kernel
theorem dX4_plugFrom_115 : decode cX4_plugFrom 115 = .ok (.iload_n 1, 1) := by decide +kernel
theorem dX4_plugFrom_116 : decode cX4_plugFrom 116 = .ok (.iaload, 1) := by decide +kernel
theorem dX4_plugFrom_117 : decode cX4_plugFrom 117 = .ok (.isub, 1) := by decide +kernel
theorem dX4_plugFrom_118 : decode cX4_plugFrom 118 = .ok (.iastore, 1) := by decide +kernel
theorem dX4_plugFrom_119 : decode cX4_plugFrom 119 = .ok (.iinc 2 1, 3) := by decide +kernel
theorem dX4_plugFrom_122 : decode cX4_plugFrom 122 = .ok (.goto (-64), 3) := by decide +kernel
theorem dX4_plugFrom_125 : decode cX4_plugFrom 125 = .ok (.return_, 1) := by decide +kernel
theorem dX4_search_0 : decode cX4_search 0 = .ok (.aload_n 0, 1) := by decide +kernel
theorem dX4_search_1 : decode cX4_search 1 = .ok (.aload_n 1, 1) := by decide +kernel
theorem dX4_search_2 : decode cX4_search 2 = .ok (.putfield 24, 3) := by decide +kernel
theorem dX4_search_5 : decode cX4_search 5 = .ok (.aload_n 0, 1) := by decide +kernel
theorem dX4_search_6 : decode cX4_search 6 = .ok (.iload_n 2, 1) := by decide +kernel
theorem dX4_search_7 : decode cX4_search 7 = .ok (.putfield 28, 3) := by decide +kernel
theorem dX4_search_10 : decode cX4_search 10 = .ok (.aload_n 0, 1) := by decide +kernel
theorem dX4_search_11 : decode cX4_search 11 = .ok (.iconst (-1), 1) := by decide +kernel
theorem dX4_search_12 : decode cX4_search 12 = .ok (.putfield 32, 3) := by decide +kernel
theorem dX4_search_15 : decode cX4_search 15 = .ok (.iconst 0, 1) := by decide +kernel
theorem dX4_search_16 : decode cX4_search 16 = .ok (.istore_n 3, 1) := by decide +kernel
theorem dX4_search_17 : decode cX4_search 17 = .ok (.iload_n 3, 1) := by decide +kernel
theorem dX4_search_18 : decode cX4_search 18 = .ok (.aload_n 0, 1) := by decide +kernel
theorem dX4_search_19 : decode cX4_search 19 = .ok (.getfield 24, 3) := by decide +kernel
theorem dX4_search_22 : decode cX4_search 22 = .ok (.getfield 35, 3) := by decide +kernel
theorem dX4_search_25 : decode cX4_search 25 = .ok (.if_icmp .ge 21, 3) := by decide +kernel
theorem dX4_search_28 : decode cX4_search 28 = .ok (.aload_n 0, 1) := by decide +kernel
theorem dX4_search_29 : decode cX4_search 29 = .ok (.getfield 15, 3) := by decide +kernel
theorem dX4_search_32 : decode cX4_search 32 = .ok (.iload_n 3, 1) := by decide +kernel
theorem dX4_search_33 : decode cX4_search 33 = .ok (.iconst 0, 1) := by decide +kernel
theorem dX4_search_34 : decode cX4_search 34 = .ok (.iastore, 1) := by decide +kernel
theorem dX4_search_35 : decode cX4_search 35 = .ok (.aload_n 0, 1) := by decide +kernel
theorem dX4_search_36 : decode cX4_search 36 = .ok (.iload_n 3, 1) := by decide +kernel
theorem dX4_search_37 : decode cX4_search 37 = .ok (.invokevirtual 40, 3) := by decide +kernel
theorem dX4_search_40 : decode cX4_search 40 = .ok (.iinc 3 1, 3) := by decide +kernel
theorem dX4_search_43 : decode cX4_search 43 = .ok (.goto (-26), 3) := by decide +kernel
theorem dX4_search_46 : decode cX4_search 46 = .ok (.aload_n 0, 1) := by decide +kernel
theorem dX4_search_47 : decode cX4_search 47 = .ok (.iconst 0, 1) := by decide +kernel
theorem dX4_search_48 : decode cX4_search 48 = .ok (.invokevirtual 44, 3) := by decide +kernel
theorem dX4_search_51 : decode cX4_search 51 = .ok (.return_, 1) := by decide +kernel
theorem dX6_append_0 : decode cX6_append 0 = .ok (.aload_n 0, 1) := by decide +kernel
theorem dX6_append_1 : decode cX6_append 1 = .ok (.getfield 9, 3) := by decide +kernel
theorem dX6_append_4 : decode cX6_append 4 = .ok (.aload_n 0, 1) := by decide +kernel
theorem dX6_append_5 : decode cX6_append 5 = .ok (.getfield 15, 3) := by decide +kernel
theorem dX6_append_8 : decode cX6_append 8 = .ok (.iload_n 1, 1) := by decide +kernel
theorem dX6_append_9 : decode cX6_append 9 = .ok (.iastore, 1) := by decide +kernel
theorem dX6_append_10 : decode cX6_append 10 = .ok (.aload_n 0, 1) := by decide +kernel
theorem dX6_append_11 : decode cX6_append 11 = .ok (.dup, 1) := by decide +kernel
theorem dX6_append_12 : decode cX6_append 12 = .ok (.getfield 15, 3) := by decide +kernel
theorem dX6_append_15 : decode cX6_append 15 = .ok (.iconst 1, 1) := by decide +kernel
theorem dX6_append_16 : decode cX6_append 16 = .ok (.iadd, 1) := by decide +kernel
theorem dX6_append_17 : decode cX6_append 17 = .ok (.putfield 15, 3) := by decide +kernel
theorem dX6_append_20 : decode cX6_append 20 = .ok (.aload_n 0, 1) := by decide +kernel
theorem dX6_append_21 : decode cX6_append 21 = .ok (.getfield 15, 3) := by decide +kernel
theorem dX6_append_24 : decode cX6_append 24 = .ok (.ireturn, 1) := by decide +kernel
theorem dX6_isFigure_0 : decode cX6_isFigure 0 = .ok (.iload_n 1, 1) := by decide +kernel
theorem dX6_isFigure_1 : decode cX6_isFigure 1 = .ok (.aload_n 0, 1) := by decide +kernel
theorem dX6_isFigure_2 : decode cX6_isFigure 2 = .ok (.getfield 15, 3) := by decide +kernel
theorem dX6_isFigure_5 : decode cX6_isFigure 5 = .ok (.if_icmp .ge 29, 3) := by decide +kernel
theorem dX6_isFigure_8 : decode cX6_isFigure 8 = .ok (.aload_n 0, 1) := by decide +kernel
theorem dX6_isFigure_9 : decode cX6_isFigure 9 = .ok (.getfield 9, 3) := by decide +kernel
theorem dX6_isFigure_12 : decode cX6_isFigure 12 = .ok (.iload_n 1, 1) := by decide +kernel
theorem dX6_isFigure_13 : decode cX6_isFigure 13 = .ok (.iaload, 1) := by decide +kernel
theorem dX6_isFigure_14 : decode cX6_isFigure 14 = .ok (.bipush 48, 2) := by decide +kernel
theorem dX6_isFigure_16 : decode cX6_isFigure 16 = .ok (.if_icmp .lt 18, 3) := by decide +kernel
theorem dX6_isFigure_19 : decode cX6_isFigure 19 = .ok (.aload_n 0, 1) := by decide +kernel
theorem dX6_isFigure_20 : decode cX6_isFigure 20 = .ok (.getfield 9, 3) := by decide +kernel
theorem dX6_isFigure_23 : decode cX6_isFigure 23 = .ok (.iload_n 1, 1) := by decide +kernel
theorem dX6_isFigure_24 : decode cX6_isFigure 24 = .ok (.iaload, 1) := by decide +kernel
theorem dX6_isFigure_25 : decode cX6_isFigure 25 = .ok (.bipush 57, 2) := by decide +kernel
theorem dX6_isFigure_27 : decode cX6_isFigure 27 = .ok (.if_icmp .gt 7, 3) := by decide +kernel
theorem dX6_isFigure_30 : decode cX6_isFigure 30 = .ok (.iconst 1, 1) := by decide +kernel
theorem dX6_isFigure_31 : decode cX6_isFigure 31 = .ok (.goto 4, 3) := by decide +kernel
theorem dX6_isFigure_34 : decode cX6_isFigure 34 = .ok (.iconst 0, 1) := by decide +kernel
theorem dX6_isFigure_35 : decode cX6_isFigure 35 = .ok (.ireturn, 1) := by decide +kernel
theorem dX6_readNumber_0 : decode cX6_readNumber 0 = .ok (.aload_n 0, 1) := by decide +kernel
theorem dX6_readNumber_1 : decode cX6_readNumber 1 = .ok (.sipush 256, 3) := by decide +kernel
theorem dX6_readNumber_4 : decode cX6_readNumber 4 = .ok (.putfield 40, 3) := by decide +kernel
theorem dX6_readNumber_7 : decode cX6_readNumber 7 = .ok (.aload_n 0, 1) := by decide +kernel
theorem dX6_readNumber_8 : decode cX6_readNumber 8 = .ok (.aload_n 0, 1) := by decide +kernel
theorem dX6_readNumber_9 : decode cX6_readNumber 9 = .ok (.getfield 9, 3) := by decide +kernel
theorem dX6_readNumber_12 : decode cX6_readNumber 12 = .ok (.aload_n 0, 1) := by decide +kernel
theorem dX6_readNumber_13 : decode cX6_readNumber 13 = .ok (.getfield 81, 3) := by decide +kernel
theorem dX6_readNumber_16 : decode cX6_readNumber 16 = .ok (.iaload, 1) := by decide +kernel
theorem dX6_readNumber_17 : decode cX6_readNumber 17 = .ok (.bipush 48, 2) := by decide +kernel
theorem dX6_readNumber_19 : decode cX6_readNumber 19 = .ok (.isub, 1) := by decide +kernel
theorem dX6_readNumber_20 : decode cX6_readNumber 20 = .ok (.putfield 78, 3) := by decide +kernel
theorem dX6_readNumber_23 : decode cX6_readNumber 23 = .ok (.aload_n 0, 1) := by decide +kernel
theorem dX6_readNumber_24 : decode cX6_readNumber 24 = .ok (.aload_n 0, 1) := by decide +kernel
theorem dX6_readNumber_25 : decode cX6_readNumber 25 = .ok (.getfield 81, 3) := by decide +kernel
theorem dX6_readNumber_28 : decode cX6_readNumber 28 = .ok (.iconst 1, 1) := by decide +kernel
theorem dX6_readNumber_29 : decode cX6_readNumber 29 = .ok (.iadd, 1) := by decide +kernel
theorem dX6_readNumber_30 : decode cX6_readNumber 30 = .ok (.invokevirtual 84, 3) := by decide +kernel
theorem dX6_readNumber_33 : decode cX6_readNumber 33 = .ok (.ifCond .eq 59, 3) := by decide +kernel
theorem dX6_readNumber_36 : decode cX6_readNumber 36 = .ok (.aload_n 0, 1) := by decide +kernel
theorem dX6_readNumber_37 : decode cX6_readNumber 37 = .ok (.aload_n 0, 1) := by decide +kernel
theorem dX6_readNumber_38 : decode cX6_readNumber 38 = .ok (.getfield 78, 3) := by decide +kernel
theorem dX6_readNumber_41 : decode cX6_readNumber 41 = .ok (.bipush 10, 2) := by decide +kernel
theorem dX6_readNumber_43 : decode cX6_readNumber 43 = .ok (.imul, 1) := by decide +kernel
theorem dX6_readNumber_44 : decode cX6_readNumber 44 = .ok (.aload_n 0, 1) := by decide +kernel
theorem dX6_readNumber_45 : decode cX6_readNumber 45 = .ok (.getfield 9, 3) := by decide +kernel
theorem dX6_readNumber_48 : decode cX6_readNumber 48 = .ok (.aload_n 0, 1) := by decide +kernel
theorem dX6_readNumber_49 : decode cX6_readNumber 49 = .ok (.getfield 81, 3) := by decide +kernel
theorem dX6_readNumber_52 : decode cX6_readNumber 52 = .ok (.iconst 1, 1) := by decide +kernel
theorem dX6_readNumber_53 : decode cX6_readNumber 53 = .ok (.iadd, 1) := by decide +kernel
theorem dX6_readNumber_54 : decode cX6_readNumber 54 = .ok (.iaload, 1) := by decide +kernel
theorem dX6_readNumber_55 : decode cX6_readNumber 55 = .ok (.iadd, 1) := by decide +kernel
theorem dX6_readNumber_56 : decode cX6_readNumber 56 = .ok (.bipush 48, 2) := by decide +kernel
theorem dX6_readNumber_58 : decode cX6_readNumber 58 = .ok (.isub, 1) := by decide +kernel
theorem dX6_readNumber_59 : decode cX6_readNumber 59 = .ok (.putfield 78, 3) := by decide +kernel
theorem dX6_readNumber_62 : decode cX6_readNumber 62 = .ok (.aload_n 0, 1) := by decide +kernel
theorem dX6_readNumber_63 : decode cX6_readNumber 63 = .ok (.aload_n 0, 1) := by decide +kernel
theorem dX6_readNumber_64 : decode cX6_readNumber 64 = .ok (.getfield 81, 3) := by decide +kernel
theorem dX6_readNumber_67 : decode cX6_readNumber 67 = .ok (.iconst 2, 1) := by decide +kernel
theorem dX6_readNumber_68 : decode cX6_readNumber 68 = .ok (.iadd, 1) := by decide +kernel
theorem dX6_readNumber_69 : decode cX6_readNumber 69 = .ok (.putfield 22, 3) := by decide +kernel
theorem dX6_readNumber_72 : decode cX6_readNumber 72 = .ok (.aload_n 0, 1) := by decide +kernel
theorem dX6_readNumber_73 : decode cX6_readNumber 73 = .ok (.aload_n 0, 1) := by decide +kernel
theorem dX6_readNumber_74 : decode cX6_readNumber 74 = .ok (.getfield 81, 3) := by decide +kernel
theorem dX6_readNumber_77 : decode cX6_readNumber 77 = .ok (.iconst 2, 1) := by decide +kernel
theorem dX6_readNumber_78 : decode cX6_readNumber 78 = .ok (.iadd, 1) := by decide +kernel
theorem dX6_readNumber_79 : decode cX6_readNumber 79 = .ok (.invokevirtual 84, 3) := by decide +kernel
theorem dX6_readNumber_82 : decode cX6_readNumber 82 = .ok (.ifCond .eq 10, 3) := by decide +kernel
theorem dX6_readNumber_85 : decode cX6_readNumber 85 = .ok (.aload_n 0, 1) := by decide +kernel
theorem dX6_readNumber_86 : decode cX6_readNumber 86 = .ok (.sipush 258, 3) := by decide +kernel
theorem dX6_readNumber_89 : decode cX6_readNumber 89 = .ok (.putfield 40, 3) := by decide +kernel
theorem dX6_readNumber_92 : decode cX6_readNumber 92 = .ok (.return_, 1) := by decide +kernel
theorem dX6_readToken_0 : decode cX6_readToken 0 = .ok (.aload_n 0, 1) := by decide +kernel
theorem dX6_readToken_1 : decode cX6_readToken 1 = .ok (.aload_n 0, 1) := by decide +kernel
theorem dX6_readToken_2 : decode cX6_readToken 2 = .ok (.getfield 22, 3) := by decide +kernel
theorem dX6_readToken_5 : decode cX6_readToken 5 = .ok (.putfield 81, 3) := by decide +kernel
theorem dX6_readToken_8 : decode cX6_readToken 8 = .ok (.aload_n 0, 1) := by decide +kernel
theorem dX6_readToken_9 : decode cX6_readToken 9 = .ok (.getfield 81, 3) := by decide +kernel
theorem dX6_readToken_12 : decode cX6_readToken 12 = .ok (.aload_n 0, 1) := by decide +kernel
theorem dX6_readToken_13 : decode cX6_readToken 13 = .ok (.getfield 15, 3) := by decide +kernel
theorem dX6_readToken_16 : decode cX6_readToken 16 = .ok (.if_icmp .lt 11, 3) := by decide +kernel
theorem dX6_readToken_19 : decode cX6_readToken 19 = .ok (.aload_n 0, 1) := by decide +kernel
theorem dX6_readToken_20 : decode cX6_readToken 20 = .ok (.sipush 257, 3) := by decide +kernel
theorem dX6_readToken_23 : decode cX6_readToken 23 = .ok (.putfield 40, 3) := by decide +kernel
theorem dX6_readToken_26 : decode cX6_readToken 26 = .ok (.return_, 1) := by decide +kernel
theorem dX6_readToken_27 : decode cX6_readToken 27 = .ok (.aload_n 0, 1) := by decide +kernel
theorem dX6_readToken_28 : decode cX6_readToken 28 = .ok (.getfield 9, 3) := by decide +kernel
theorem dX6_readToken_31 : decode cX6_readToken 31 = .ok (.aload_n 0, 1) := by decide +kernel
theorem dX6_readToken_32 : decode cX6_readToken 32 = .ok (.getfield 81, 3) := by decide +kernel
theorem dX6_readToken_35 : decode cX6_readToken 35 = .ok (.iaload, 1) := by decide +kernel
theorem dX6_readToken_36 : decode cX6_readToken 36 = .ok (.istore_n 1, 1) := by decide +kernel
theorem dX6_readToken_37 : decode cX6_readToken 37 = .ok (.aload_n 0, 1) := by decide +kernel
theorem dX6_readToken_38 : decode cX6_readToken 38 = .ok (.aload_n 0, 1) := by decide +kernel
theorem dX6_readToken_39 : decode cX6_readToken 39 = .ok (.getfield 81, 3) := by decide +kernel
theorem dX6_readToken_42 : decode cX6_readToken 42 = .ok (.iconst 1, 1) := by decide +kernel
theorem dX6_readToken_43 : decode cX6_readToken 43 = .ok (.iadd, 1) := by decide +kernel
theorem dX6_readToken_44 : decode cX6_readToken 44 = .ok (.putfield 22, 3) := by decide +kernel
theorem dX6_readToken_47 : decode cX6_readToken 47 = .ok (.aload_n 0, 1) := by decide +kernel
theorem dX6_readToken_48 : decode cX6_readToken 48 = .ok (.aload_n 0, 1) := by decide +kernel
theorem dX6_readToken_49 : decode cX6_readToken 49 = .ok (.getfield 81, 3) := by decide +kernel
theorem dX6_readToken_52 : decode cX6_readToken 52 = .ok (.invokevirtual 84, 3) := by decide +kernel
theorem dX6_readToken_55 : decode cX6_readToken 55 = .ok (.ifCond .eq 10, 3) := by decide +kernel
theorem dX6_readToken_58 : decode cX6_readToken 58 = .ok (.aload_n 0, 1) := by decide +kernel
theorem dX6_readToken_59 : decode cX6_readToken 59 = .ok (.invokevirtual 88, 3) := by decide +kernel
theorem dX6_readToken_62 : decode cX6_readToken 62 = .ok (.goto 42, 3) := by decide +kernel
theorem dX6_readToken_65 : decode cX6_readToken 65 = .ok (.iload_n 1, 1) := by decide +kernel
theorem dX6_readToken_66 : decode cX6_readToken 66 = .ok (.bipush 97, 2) := by decide +kernel
theorem dX6_readToken_68 : decode cX6_readToken 68 = .ok (.if_icmp .lt 9, 3) := by decide +kernel
theorem dX6_readToken_71 : decode cX6_readToken 71 = .ok (.iload_n 1, 1) := by decide +kernel
theorem dX6_readToken_72 : decode cX6_readToken 72 = .ok (.bipush 122, 2) := by decide +kernel
theorem dX6_readToken_74 : decode cX6_readToken 74 = .ok (.if_icmp .le 15, 3) := by decide +kernel
theorem dX6_readToken_77 : decode cX6_readToken 77 = .ok (.iload_n 1, 1) := by decide +kernel
theorem dX6_readToken_78 : decode cX6_readToken 78 = .ok (.bipush 44, 2) := by decide +kernel
theorem dX6_readToken_80 : decode cX6_readToken 80 = .ok (.if_icmp .eq 9, 3) := by decide +kernel
theorem dX6_readToken_83 : decode cX6_readToken 83 = .ok (.iload_n 1, 1) := by decide +kernel
theorem dX6_readToken_84 : decode cX6_readToken 84 = .ok (.bipush 59, 2) := by decide +kernel
theorem dX6_readToken_86 : decode cX6_readToken 86 = .ok (.if_icmp .ne 11, 3) := by decide +kernel
theorem dX6_readToken_89 : decode cX6_readToken 89 = .ok (.aload_n 0, 1) := by decide +kernel
theorem dX6_readToken_90 : decode cX6_readToken 90 = .ok (.iload_n 1, 1) := by decide +kernel
theorem dX6_readToken_91 : decode cX6_readToken 91 = .ok (.putfield 40, 3) := by decide +kernel
theorem dX6_readToken_94 : decode cX6_readToken 94 = .ok (.goto 10, 3) := by decide +kernel
theorem dX6_readToken_97 : decode cX6_readToken 97 = .ok (.aload_n 0, 1) := by decide +kernel
theorem dX6_readToken_98 : decode cX6_readToken 98 = .ok (.sipush 258, 3) := by decide +kernel
theorem dX6_readToken_101 : decode cX6_readToken 101 = .ok (.putfield 40, 3) := by decide +kernel
theorem dX6_readToken_104 : decode cX6_readToken 104 = .ok (.return_, 1) := by decide +kernel
theorem dX6_fail_0 : decode cX6_fail 0 = .ok (.aload_n 0, 1) := by decide +kernel
theorem dX6_fail_1 : decode cX6_fail 1 = .ok (.getfield 19, 3) := by decide +kernel
theorem dX6_fail_4 : decode cX6_fail 4 = .ok (.ifCond .ne 8, 3) := by decide +kernel
theorem dX6_fail_7 : decode cX6_fail 7 = .ok (.aload_n 0, 1) := by decide +kernel
theorem dX6_fail_8 : decode cX6_fail 8 = .ok (.iload_n 1, 1) := by decide +kernel
theorem dX6_fail_9 : decode cX6_fail 9 = .ok (.putfield 19, 3) := by decide +kernel
theorem dX6_fail_12 : decode cX6_fail 12 = .ok (.return_, 1) := by decide +kernel
theorem dX6_take_0 : decode cX6_take 0 = .ok (.aload_n 0, 1) := by decide +kernel
theorem dX6_take_1 : decode cX6_take 1 = .ok (.getfield 19, 3) := by decide +kernel
theorem dX6_take_4 : decode cX6_take 4 = .ok (.ifCond .eq 4, 3) := by decide +kernel
theorem dX6_take_7 : decode cX6_take 7 = .ok (.return_, 1) := by decide +kernel
theorem dX6_take_8 : decode cX6_take 8 = .ok (.aload_n 0, 1) := by decide +kernel
theorem dX6_take_9 : decode cX6_take 9 = .ok (.getfield 40, 3) := by decide +kernel
theorem dX6_take_12 : decode cX6_take 12 = .ok (.iload_n 1, 1) := by decide +kernel
theorem dX6_take_13 : decode cX6_take 13 = .ok (.if_icmp .eq 11, 3) := by decide +kernel
theorem dX6_take_16 : decode cX6_take 16 = .ok (.aload_n 0, 1) := by decide +kernel
theorem dX6_take_17 : decode cX6_take 17 = .ok (.iconst 1, 1) := by decide +kernel
theorem dX6_take_18 : decode cX6_take 18 = .ok (.invokevirtual 61, 3) := by decide +kernel
theorem dX6_take_21 : decode cX6_take 21 = .ok (.goto 7, 3) := by decide +kernel
theorem dX6_take_24 : decode cX6_take 24 = .ok (.aload_n 0, 1) := by decide +kernel
theorem dX6_take_25 : decode cX6_take 25 = .ok (.invokevirtual 30, 3) := by decide +kernel
theorem dX6_take_28 : decode cX6_take 28 = .ok (.return_, 1) := by decide +kernel
theorem dX6_takeNumber_0 : decode cX6_takeNumber 0 = .ok (.aload_n 0, 1) := by decide +kernel
theorem dX6_takeNumber_1 : decode cX6_takeNumber 1 = .ok (.getfield 78, 3) := by decide +kernel
theorem dX6_takeNumber_4 : decode cX6_takeNumber 4 = .ok (.istore_n 3, 1) := by decide +kernel
theorem dX6_takeNumber_5 : decode cX6_takeNumber 5 = .ok (.aload_n 0, 1) := by decide +kernel
theorem dX6_takeNumber_6 : decode cX6_takeNumber 6 = .ok (.getfield 19, 3) := by decide +kernel
theorem dX6_takeNumber_9 : decode cX6_takeNumber 9 = .ok (.ifCond .eq 5, 3) := by decide +kernel
theorem dX6_takeNumber_12 : decode cX6_takeNumber 12 = .ok (.iload_n 3, 1) := by decide +kernel
theorem dX6_takeNumber_13 : decode cX6_takeNumber 13 = .ok (.ireturn, 1) := by decide +kernel
theorem dX6_takeNumber_14 : decode cX6_takeNumber 14 = .ok (.aload_n 0, 1) := by decide +kernel
theorem dX6_takeNumber_15 : decode cX6_takeNumber 15 = .ok (.getfield 40, 3) := by decide +kernel
theorem dX6_takeNumber_18 : decode cX6_takeNumber 18 = .ok (.sipush 256, 3) := by decide +kernel
theorem dX6_takeNumber_21 : decode cX6_takeNumber 21 = .ok (.if_icmp .eq 11, 3) := by decide +kernel
theorem dX6_takeNumber_24 : decode cX6_takeNumber 24 = .ok (.aload_n 0, 1) := by decide +kernel
theorem dX6_takeNumber_25 : decode cX6_takeNumber 25 = .ok (.iconst 1, 1) := by decide +kernel
theorem dX6_takeNumber_26 : decode cX6_takeNumber 26 = .ok (.invokevirtual 61, 3) := by decide +kernel
theorem dX6_takeNumber_29 : decode cX6_takeNumber 29 = .ok (.goto 25, 3) := by decide +kernel
theorem dX6_takeNumber_32 : decode cX6_takeNumber 32 = .ok (.iload_n 3, 1) := by decide +kernel
theorem dX6_takeNumber_33 : decode cX6_takeNumber 33 = .ok (.iload_n 1, 1) := by decide +kernel
theorem dX6_takeNumber_34 : decode cX6_takeNumber 34 = .ok (.if_icmp .lt 8, 3) := by decide +kernel
theorem dX6_takeNumber_37 : decode cX6_takeNumber 37 = .ok (.iload_n 3, 1) := by decide +kernel
theorem dX6_takeNumber_38 : decode cX6_takeNumber 38 = .ok (.iload_n 2, 1) := by decide +kernel
theorem dX6_takeNumber_39 : decode cX6_takeNumber 39 = .ok (.if_icmp .le 11, 3) := by decide +kernel
theorem dX6_takeNumber_42 : decode cX6_takeNumber 42 = .ok (.aload_n 0, 1) := by decide +kernel
theorem dX6_takeNumber_43 : decode cX6_takeNumber 43 = .ok (.iconst 2, 1) := by decide +kernel
theorem dX6_takeNumber_44 : decode cX6_takeNumber 44 = .ok (.invokevirtual 61, 3) := by decide +kernel
theorem dX6_takeNumber_47 : decode cX6_takeNumber 47 = .ok (.goto 7, 3) := by decide +kernel
theorem dX6_takeNumber_50 : decode cX6_takeNumber 50 = .ok (.aload_n 0, 1) := by decide +kernel
theorem dX6_takeNumber_51 : decode cX6_takeNumber 51 = .ok (.invokevirtual 30, 3) := by decide +kernel
theorem dX6_takeNumber_54 : decode cX6_takeNumber 54 = .ok (.iload_n 3, 1) := by decide +kernel
theorem dX6_takeNumber_55 : decode cX6_takeNumber 55 = .ok (.ireturn, 1) := by decide +kernel
theorem dX6_readLaw_0 : decode cX6_readLaw 0 = .ok (.aload_n 0, 1) := by decide +kernel
theorem dX6_readLaw_1 : decode cX6_readLaw 1 = .ok (.bipush 109, 2) := by decide +kernel
theorem dX6_readLaw_3 : decode cX6_readLaw 3 = .ok (.invokevirtual 50, 3) := by decide +kernel
theorem dX6_readLaw_6 : decode cX6_readLaw 6 = .ok (.aload_n 1, 1) := by decide +kernel
theorem dX6_readLaw_7 : decode cX6_readLaw 7 = .ok (.aload_n 0, 1) := by decide +kernel
theorem dX6_readLaw_8 : decode cX6_readLaw 8 = .ok (.iconst 1, 1) := by decide +kernel
theorem dX6_readLaw_9 : decode cX6_readLaw 9 = .ok (.bipush 60, 2) := by decide +kernel
theorem dX6_readLaw_11 : decode cX6_readLaw 11 = .ok (.invokevirtual 54, 3) := by decide +kernel
theorem dX6_readLaw_14 : decode cX6_readLaw 14 = .ok (.putfield 58, 3) := by decide +kernel
theorem dX6_readLaw_17 : decode cX6_readLaw 17 = .ok (.aload_n 0, 1) := by decide +kernel
theorem dX6_readLaw_18 : decode cX6_readLaw 18 = .ok (.bipush 59, 2) := by decide +kernel
theorem dX6_readLaw_20 : decode cX6_readLaw 20 = .ok (.invokevirtual 50, 3) := by decide +kernel
theorem dX6_readLaw_23 : decode cX6_readLaw 23 = .ok (.return_, 1) := by decide +kernel
theorem dX6_sortOf_0 : decode cX6_sortOf 0 = .ok (.iload_n 0, 1) := by decide +kernel
theorem dX6_sortOf_1 : decode cX6_sortOf 1 = .ok (.lookupswitch 61 #[(98, 57), (99, 59), (113, 55), (115, 53), (119, 51)], 51) := by decide +kernel
theorem dX6_sortOf_52 : decode cX6_sortOf 52 = .ok (.iconst 1, 1) := by decide +kernel
theorem dX6_sortOf_53 : decode cX6_sortOf 53 = .ok (.ireturn, 1) := by decide +kernel
theorem dX6_sortOf_54 : decode cX6_sortOf 54 = .ok (.iconst 2, 1) := by decide +kernel
theorem dX6_sortOf_55 : decode cX6_sortOf 55 = .ok (.ireturn, 1) := by decide +kernel
theorem dX6_sortOf_56 : decode cX6_sortOf 56 = .ok (.iconst 3, 1) := by decide +kernel
theorem dX6_sortOf_57 : decode cX6_sortOf 57 = .ok (.ireturn, 1) := by decide +kernel
theorem dX6_sortOf_58 : decode cX6_sortOf 58 = .ok (.iconst 4, 1) := by decide +kernel
theorem dX6_sortOf_59 : decode cX6_sortOf 59 = .ok (.ireturn, 1) := by decide +kernel
theorem dX6_sortOf_60 : decode cX6_sortOf 60 = .ok (.iconst 5, 1) := by decide +kernel
theorem dX6_sortOf_61 : decode cX6_sortOf 61 = .ok (.ireturn, 1) := by decide +kernel
theorem dX6_sortOf_62 : decode cX6_sortOf 62 = .ok (.iconst 0, 1) := by decide +kernel
theorem dX6_sortOf_63 : decode cX6_sortOf 63 = .ok (.ireturn, 1) := by decide +kernel
theorem dX6_readLine_0 : decode cX6_readLine 0 = .ok (.aload_n 0, 1) := by decide +kernel
theorem dX6_readLine_1 : decode cX6_readLine 1 = .ok (.getfield 40, 3) := by decide +kernel
theorem dX6_readLine_4 : decode cX6_readLine 4 = .ok (.invokestatic 43, 3) := by decide +kernel
theorem dX6_readLine_7 : decode cX6_readLine 7 = .ok (.istore_n 2, 1) := by decide +kernel
theorem dX6_readLine_8 : decode cX6_readLine 8 = .ok (.iload_n 2, 1) := by decide +kernel
theorem dX6_readLine_9 : decode cX6_readLine 9 = .ok (.ifCond .ne 11, 3) := by decide +kernel
theorem dX6_readLine_12 : decode cX6_readLine 12 = .ok (.aload_n 0, 1) := by decide +kernel
theorem dX6_readLine_13 : decode cX6_readLine 13 = .ok (.iconst 1, 1) := by decide +kernel
theorem dX6_readLine_14 : decode cX6_readLine 14 = .ok (.invokevirtual 61, 3) := by decide +kernel
theorem dX6_readLine_17 : decode cX6_readLine 17 = .ok (.goto 16, 3) := by decide +kernel
theorem dX6_readLine_20 : decode cX6_readLine 20 = .ok (.aload_n 1, 1) := by decide +kernel
theorem dX6_readLine_21 : decode cX6_readLine 21 = .ok (.getfield 64, 3) := by decide +kernel
theorem dX6_readLine_24 : decode cX6_readLine 24 = .ok (.iconst 4, 1) := by decide +kernel
theorem dX6_readLine_25 : decode cX6_readLine 25 = .ok (.if_icmp .lt 8, 3) := by decide +kernel
theorem dX6_readLine_28 : decode cX6_readLine 28 = .ok (.aload_n 0, 1) := by decide +kernel
theorem dX6_readLine_29 : decode cX6_readLine 29 = .ok (.iconst 3, 1) := by decide +kernel
theorem dX6_readLine_30 : decode cX6_readLine 30 = .ok (.invokevirtual 61, 3) := by decide +kernel
theorem dX6_readLine_33 : decode cX6_readLine 33 = .ok (.aload_n 0, 1) := by decide +kernel
theorem dX6_readLine_34 : decode cX6_readLine 34 = .ok (.aload_n 0, 1) := by decide +kernel
theorem dX6_readLine_35 : decode cX6_readLine 35 = .ok (.getfield 40, 3) := by decide +kernel
theorem dX6_readLine_38 : decode cX6_readLine 38 = .ok (.invokevirtual 50, 3) := by decide +kernel
theorem dX6_readLine_41 : decode cX6_readLine 41 = .ok (.aload_n 0, 1) := by decide +kernel
theorem dX6_readLine_42 : decode cX6_readLine 42 = .ok (.iconst 1, 1) := by decide +kernel
theorem dX6_readLine_43 : decode cX6_readLine 43 = .ok (.bipush 20, 2) := by decide +kernel
theorem dX6_readLine_45 : decode cX6_readLine 45 = .ok (.invokevirtual 54, 3) := by decide +kernel
theorem dX6_readLine_48 : decode cX6_readLine 48 = .ok (.istore_n 3, 1) := by decide +kernel
theorem dX6_readLine_49 : decode cX6_readLine 49 = .ok (.aload_n 0, 1) := by decide +kernel
theorem dX6_readLine_50 : decode cX6_readLine 50 = .ok (.bipush 59, 2) := by decide +kernel
theorem dX6_readLine_52 : decode cX6_readLine 52 = .ok (.invokevirtual 50, 3) := by decide +kernel
theorem dX6_readLine_55 : decode cX6_readLine 55 = .ok (.aload_n 0, 1) := by decide +kernel
theorem dX6_readLine_56 : decode cX6_readLine 56 = .ok (.getfield 19, 3) := by decide +kernel
theorem dX6_readLine_59 : decode cX6_readLine 59 = .ok (.ifCond .ne 9, 3) := by decide +kernel
theorem dX6_readLine_62 : decode cX6_readLine 62 = .ok (.aload_n 1, 1) := by decide +kernel
theorem dX6_readLine_63 : decode cX6_readLine 63 = .ok (.iload_n 2, 1) := by decide +kernel
theorem dX6_readLine_64 : decode cX6_readLine 64 = .ok (.iload_n 3, 1) := by decide +kernel
theorem dX6_readLine_65 : decode cX6_readLine 65 = .ok (.invokevirtual 67, 3) := by decide +kernel
theorem dX6_readLine_68 : decode cX6_readLine 68 = .ok (.return_, 1) := by decide +kernel
theorem dX6_readThing_0 : decode cX6_readThing 0 = .ok (.aload_n 0, 1) := by decide +kernel
theorem dX6_readThing_1 : decode cX6_readThing 1 = .ok (.getfield 40, 3) := by decide +kernel
theorem dX6_readThing_4 : decode cX6_readThing 4 = .ok (.bipush 116, 2) := by decide +kernel
theorem dX6_readThing_6 : decode cX6_readThing 6 = .ok (.if_icmp .ne 17, 3) := by decide +kernel
theorem dX6_readThing_9 : decode cX6_readThing 9 = .ok (.aload_n 1, 1) := by decide +kernel
theorem dX6_readThing_10 : decode cX6_readThing 10 = .ok (.getfield 71, 3) := by decide +kernel
theorem dX6_readThing_13 : decode cX6_readThing 13 = .ok (.bipush 6, 2) := by decide +kernel
theorem dX6_readThing_15 : decode cX6_readThing 15 = .ok (.if_icmp .lt 8, 3) := by decide +kernel
theorem dX6_readThing_18 : decode cX6_readThing 18 = .ok (.aload_n 0, 1) := by decide +kernel
theorem dX6_readThing_19 : decode cX6_readThing 19 = .ok (.iconst 3, 1) := by decide +kernel
theorem dX6_readThing_20 : decode cX6_readThing 20 = .ok (.invokevirtual 61, 3) := by decide +kernel
theorem dX6_readThing_23 : decode cX6_readThing 23 = .ok (.aload_n 0, 1) := by decide +kernel
theorem dX6_readThing_24 : decode cX6_readThing 24 = .ok (.bipush 116, 2) := by decide +kernel
theorem dX6_readThing_26 : decode cX6_readThing 26 = .ok (.invokevirtual 50, 3) := by decide +kernel
theorem dX6_readThing_29 : decode cX6_readThing 29 = .ok (.aload_n 0, 1) := by decide +kernel
theorem dX6_readThing_30 : decode cX6_readThing 30 = .ok (.iconst 0, 1) := by decide +kernel
theorem dX6_readThing_31 : decode cX6_readThing 31 = .ok (.aload_n 1, 1) := by decide +kernel
theorem dX6_readThing_32 : decode cX6_readThing 32 = .ok (.getfield 64, 3) := by decide +kernel
theorem dX6_readThing_35 : decode cX6_readThing 35 = .ok (.iconst 1, 1) := by decide +kernel
theorem dX6_readThing_36 : decode cX6_readThing 36 = .ok (.isub, 1) := by decide +kernel
theorem dX6_readThing_37 : decode cX6_readThing 37 = .ok (.invokevirtual 54, 3) := by decide +kernel
theorem dX6_readThing_40 : decode cX6_readThing 40 = .ok (.istore_n 2, 1) := by decide +kernel
theorem dX6_readThing_41 : decode cX6_readThing 41 = .ok (.aload_n 0, 1) := by decide +kernel
theorem dX6_readThing_42 : decode cX6_readThing 42 = .ok (.bipush 44, 2) := by decide +kernel
theorem dX6_readThing_44 : decode cX6_readThing 44 = .ok (.invokevirtual 50, 3) := by decide +kernel
theorem dX6_readThing_47 : decode cX6_readThing 47 = .ok (.aload_n 0, 1) := by decide +kernel
theorem dX6_readThing_48 : decode cX6_readThing 48 = .ok (.iconst 1, 1) := by decide +kernel
theorem dX6_readThing_49 : decode cX6_readThing 49 = .ok (.bipush 20, 2) := by decide +kernel
theorem dX6_readThing_51 : decode cX6_readThing 51 = .ok (.invokevirtual 54, 3) := by decide +kernel
theorem dX6_readThing_54 : decode cX6_readThing 54 = .ok (.istore_n 3, 1) := by decide +kernel
theorem dX6_readThing_55 : decode cX6_readThing 55 = .ok (.aload_n 0, 1) := by decide +kernel
theorem dX6_readThing_56 : decode cX6_readThing 56 = .ok (.bipush 44, 2) := by decide +kernel
theorem dX6_readThing_58 : decode cX6_readThing 58 = .ok (.invokevirtual 50, 3) := by decide +kernel
theorem dX6_readThing_61 : decode cX6_readThing 61 = .ok (.aload_n 0, 1) := by decide +kernel
theorem dX6_readThing_62 : decode cX6_readThing 62 = .ok (.iconst 0, 1) := by decide +kernel
theorem dX6_readThing_63 : decode cX6_readThing 63 = .ok (.iconst 1, 1) := by decide +kernel
theorem dX6_readThing_64 : decode cX6_readThing 64 = .ok (.invokevirtual 54, 3) := by decide +kernel
theorem dX6_readThing_67 : decode cX6_readThing 67 = .ok (.istore 4, 2) := by decide +kernel
theorem dX6_readThing_69 : decode cX6_readThing 69 = .ok (.aload_n 0, 1) := by decide +kernel
theorem dX6_readThing_70 : decode cX6_readThing 70 = .ok (.bipush 59, 2) := by decide +kernel
theorem dX6_readThing_72 : decode cX6_readThing 72 = .ok (.invokevirtual 50, 3) := by decide +kernel
theorem dX6_readThing_75 : decode cX6_readThing 75 = .ok (.aload_n 0, 1) := by decide +kernel
theorem dX6_readThing_76 : decode cX6_readThing 76 = .ok (.getfield 19, 3) := by decide +kernel
theorem dX6_readThing_79 : decode cX6_readThing 79 = .ok (.ifCond .ne 11, 3) := by decide +kernel
theorem dX6_readThing_82 : decode cX6_readThing 82 = .ok (.aload_n 1, 1) := by decide +kernel
theorem dX6_readThing_83 : decode cX6_readThing 83 = .ok (.iload_n 2, 1) := by decide +kernel
theorem dX6_readThing_84 : decode cX6_readThing 84 = .ok (.iload_n 3, 1) := by decide +kernel
theorem dX6_readThing_85 : decode cX6_readThing 85 = .ok (.iload 4, 2) := by decide +kernel
theorem dX6_readThing_87 : decode cX6_readThing 87 = .ok (.invokevirtual 74, 3) := by decide +kernel
theorem dX6_readThing_90 : decode cX6_readThing 90 = .ok (.return_, 1) := by decide +kernel
theorem dX6_readInto_0 : decode cX6_readInto 0 = .ok (.aload_n 0, 1) := by decide +kernel
theorem dX6_readInto_1 : decode cX6_readInto 1 = .ok (.iconst 0, 1) := by decide +kernel
theorem dX6_readInto_2 : decode cX6_readInto 2 = .ok (.putfield 19, 3) := by decide +kernel
theorem dX6_readInto_5 : decode cX6_readInto 5 = .ok (.aload_n 0, 1) := by decide +kernel
theorem dX6_readInto_6 : decode cX6_readInto 6 = .ok (.iconst 0, 1) := by decide +kernel
theorem dX6_readInto_7 : decode cX6_readInto 7 = .ok (.putfield 22, 3) := by decide +kernel
theorem dX6_readInto_10 : decode cX6_readInto 10 = .ok (.aload_n 1, 1) := by decide +kernel
theorem dX6_readInto_11 : decode cX6_readInto 11 = .ok (.invokevirtual 25, 3) := by decide +kernel
theorem dX6_readInto_14 : decode cX6_readInto 14 = .ok (.aload_n 0, 1) := by decide +kernel
theorem dX6_readInto_15 : decode cX6_readInto 15 = .ok (.invokevirtual 30, 3) := by decide +kernel
theorem dX6_readInto_18 : decode cX6_readInto 18 = .ok (.aload_n 0, 1) := by decide +kernel
theorem dX6_readInto_19 : decode cX6_readInto 19 = .ok (.aload_n 1, 1) := by decide +kernel
theorem dX6_readInto_20 : decode cX6_readInto 20 = .ok (.invokevirtual 33, 3) := by decide +kernel
theorem dX6_readInto_23 : decode cX6_readInto 23 = .ok (.aload_n 0, 1) := by decide +kernel
theorem dX6_readInto_24 : decode cX6_readInto 24 = .ok (.aload_n 1, 1) := by decide +kernel
theorem dX6_readInto_25 : decode cX6_readInto 25 = .ok (.invokevirtual 37, 3) := by decide +kernel
theorem dX6_readInto_28 : decode cX6_readInto 28 = .ok (.iconst 0, 1) := by decide +kernel
theorem dX6_readInto_29 : decode cX6_readInto 29 = .ok (.istore_n 2, 1) := by decide +kernel
theorem dX6_readInto_30 : decode cX6_readInto 30 = .ok (.iload_n 2, 1) := by decide +kernel
theorem dX6_readInto_31 : decode cX6_readInto 31 = .ok (.iconst 4, 1) := by decide +kernel
theorem dX6_readInto_32 : decode cX6_readInto 32 = .ok (.if_icmp .ge 24, 3) := by decide +kernel
theorem dX6_readInto_35 : decode cX6_readInto 35 = .ok (.aload_n 0, 1) := by decide +kernel
theorem dX6_readInto_36 : decode cX6_readInto 36 = .ok (.getfield 40, 3) := by decide +kernel
theorem dX6_readInto_39 : decode cX6_readInto 39 = .ok (.invokestatic 43, 3) := by decide +kernel
theorem dX6_readInto_42 : decode cX6_readInto 42 = .ok (.ifCond .eq 14, 3) := by decide +kernel
theorem dX6_readInto_45 : decode cX6_readInto 45 = .ok (.aload_n 0, 1) := by decide +kernel
theorem dX6_readInto_46 : decode cX6_readInto 46 = .ok (.aload_n 1, 1) := by decide +kernel
theorem dX6_readInto_47 : decode cX6_readInto 47 = .ok (.invokevirtual 37, 3) := by decide +kernel
theorem dX6_readInto_50 : decode cX6_readInto 50 = .ok (.iinc 2 1, 3) := by decide +kernel
theorem dX6_readInto_53 : decode cX6_readInto 53 = .ok (.goto (-23), 3) := by decide +kernel
theorem dX6_readInto_56 : decode cX6_readInto 56 = .ok (.aload_n 0, 1) := by decide +kernel
theorem dX6_readInto_57 : decode cX6_readInto 57 = .ok (.aload_n 1, 1) := by decide +kernel
theorem dX6_readInto_58 : decode cX6_readInto 58 = .ok (.invokevirtual 47, 3) := by decide +kernel
theorem dX6_readInto_61 : decode cX6_readInto 61 = .ok (.iconst 0, 1) := by decide +kernel
theorem dX6_readInto_62 : decode cX6_readInto 62 = .ok (.istore_n 2, 1) := by decide +kernel
theorem dX6_readInto_63 : decode cX6_readInto 63 = .ok (.iload_n 2, 1) := by decide +kernel
theorem dX6_readInto_64 : decode cX6_readInto 64 = .ok (.bipush 6, 2) := by decide +kernel
theorem dX6_readInto_66 : decode cX6_readInto 66 = .ok (.if_icmp .ge 23, 3) := by decide +kernel
theorem dX6_readInto_69 : decode cX6_readInto 69 = .ok (.aload_n 0, 1) := by decide +kernel
theorem dX6_readInto_70 : decode cX6_readInto 70 = .ok (.getfield 40, 3) := by decide +kernel
theorem dX6_readInto_73 : decode cX6_readInto 73 = .ok (.bipush 116, 2) := by decide +kernel
theorem dX6_readInto_75 : decode cX6_readInto 75 = .ok (.if_icmp .ne 14, 3) := by decide +kernel
theorem dX6_readInto_78 : decode cX6_readInto 78 = .ok (.aload_n 0, 1) := by decide +kernel
theorem dX6_readInto_79 : decode cX6_readInto 79 = .ok (.aload_n 1, 1) := by decide +kernel
theorem dX6_readInto_80 : decode cX6_readInto 80 = .ok (.invokevirtual 47, 3) := by decide +kernel
theorem dX6_readInto_83 : decode cX6_readInto 83 = .ok (.iinc 2 1, 3) := by decide +kernel
theorem dX6_readInto_86 : decode cX6_readInto 86 = .ok (.goto (-23), 3) := by decide +kernel
theorem dX6_readInto_89 : decode cX6_readInto 89 = .ok (.aload_n 0, 1) := by decide +kernel
theorem dX6_readInto_90 : decode cX6_readInto 90 = .ok (.sipush 257, 3) := by decide +kernel
theorem dX6_readInto_93 : decode cX6_readInto 93 = .ok (.invokevirtual 50, 3) := by decide +kernel
theorem dX6_readInto_96 : decode cX6_readInto 96 = .ok (.aload_n 0, 1) := by decide +kernel
theorem dX6_readInto_97 : decode cX6_readInto 97 = .ok (.iconst 0, 1) := by decide +kernel
theorem dX6_readInto_98 : decode cX6_readInto 98 = .ok (.putfield 15, 3) := by decide +kernel
theorem dX6_readInto_101 : decode cX6_readInto 101 = .ok (.aload_n 0, 1) := by decide +kernel
theorem dX6_readInto_102 : decode cX6_readInto 102 = .ok (.getfield 19, 3) := by decide +kernel
theorem dX6_readInto_105 : decode cX6_readInto 105 = .ok (.ireturn, 1) := by decide +kernel
