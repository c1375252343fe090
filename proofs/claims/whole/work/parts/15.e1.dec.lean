theorem dX12_isThing_11 : decode cX12_isThing 11 = .ok (.i2l, 1) := by decide +kernel
theorem dX12_isThing_12 : decode cX12_isThing 12 = .ok (.invokestatic 60, 3) := by decide +kernel
theorem dX12_isThing_15 : decode cX12_isThing 15 = .ok (.ireturn, 1) := by decide +kernel
theorem dX12_isHouse_0 : decode cX12_isHouse 0 = .ok (.aload_n 0, 1) := by decide +kernel
theorem dX12_isHouse_1 : decode cX12_isHouse 1 = .ok (.getfield 13, 3) := by decide +kernel
theorem dX12_isHouse_4 : decode cX12_isHouse 4 = .ok (.iconst 0, 1) := by decide +kernel
theorem dX12_isHouse_5 : decode cX12_isHouse 5 = .ok (.iaload, 1) := by decide +kernel
theorem dX12_isHouse_6 : decode cX12_isHouse 6 = .ok (.ifCond .le 7, 3) := by decide +kernel
theorem dX12_isHouse_9 : decode cX12_isHouse 9 = .ok (.iconst 1, 1) := by decide +kernel
theorem dX12_isHouse_10 : decode cX12_isHouse 10 = .ok (.goto 4, 3) := by decide +kernel
theorem dX12_isHouse_13 : decode cX12_isHouse 13 = .ok (.iconst 0, 1) := by decide +kernel
theorem dX12_isHouse_14 : decode cX12_isHouse 14 = .ok (.ireturn, 1) := by decide +kernel
theorem dX12_isLive_0 : decode cX12_isLive 0 = .ok (.aload_n 0, 1) := by decide +kernel
theorem dX12_isLive_1 : decode cX12_isLive 1 = .ok (.getfield 7, 3) := by decide +kernel
theorem dX12_isLive_4 : decode cX12_isLive 4 = .ok (.iload_n 1, 1) := by decide +kernel
theorem dX12_isLive_5 : decode cX12_isLive 5 = .ok (.iconst 4, 1) := by decide +kernel
theorem dX12_isLive_6 : decode cX12_isLive 6 = .ok (.iadd, 1) := by decide +kernel
theorem dX12_isLive_7 : decode cX12_isLive 7 = .ok (.iload_n 2, 1) := by decide +kernel
theorem dX12_isLive_8 : decode cX12_isLive 8 = .ok (.iadd, 1) := by decide +kernel
theorem dX12_isLive_9 : decode cX12_isLive 9 = .ok (.iaload, 1) := by decide +kernel
theorem dX12_isLive_10 : decode cX12_isLive 10 = .ok (.ifCond .ne 19, 3) := by decide +kernel
theorem dX12_isLive_13 : decode cX12_isLive 13 = .ok (.aload_n 0, 1) := by decide +kernel
theorem dX12_isLive_14 : decode cX12_isLive 14 = .ok (.getfield 7, 3) := by decide +kernel
theorem dX12_isLive_17 : decode cX12_isLive 17 = .ok (.iload_n 1, 1) := by decide +kernel
theorem dX12_isLive_18 : decode cX12_isLive 18 = .ok (.bipush 24, 2) := by decide +kernel
theorem dX12_isLive_20 : decode cX12_isLive 20 = .ok (.iadd, 1) := by decide +kernel
theorem dX12_isLive_21 : decode cX12_isLive 21 = .ok (.iaload, 1) := by decide +kernel
theorem dX12_isLive_22 : decode cX12_isLive 22 = .ok (.ifCond .ne 7, 3) := by decide +kernel
theorem dX12_isLive_25 : decode cX12_isLive 25 = .ok (.iconst 1, 1) := by decide +kernel
theorem dX12_isLive_26 : decode cX12_isLive 26 = .ok (.goto 4, 3) := by decide +kernel
theorem dX12_isLive_29 : decode cX12_isLive 29 = .ok (.iconst 0, 1) := by decide +kernel
theorem dX12_isLive_30 : decode cX12_isLive 30 = .ok (.ireturn, 1) := by decide +kernel
theorem dX12_runs_0 : decode cX12_runs 0 = .ok (.aload_n 0, 1) := by decide +kernel
theorem dX12_runs_1 : decode cX12_runs 1 = .ok (.getfield 7, 3) := by decide +kernel
theorem dX12_runs_4 : decode cX12_runs 4 = .ok (.iload_n 1, 1) := by decide +kernel
theorem dX12_runs_5 : decode cX12_runs 5 = .ok (.bipush 18, 2) := by decide +kernel
theorem dX12_runs_7 : decode cX12_runs 7 = .ok (.iadd, 1) := by decide +kernel
theorem dX12_runs_8 : decode cX12_runs 8 = .ok (.iload_n 2, 1) := by decide +kernel
theorem dX12_runs_9 : decode cX12_runs 9 = .ok (.iadd, 1) := by decide +kernel
theorem dX12_runs_10 : decode cX12_runs 10 = .ok (.iaload, 1) := by decide +kernel
theorem dX12_runs_11 : decode cX12_runs 11 = .ok (.iconst 1, 1) := by decide +kernel
theorem dX12_runs_12 : decode cX12_runs 12 = .ok (.if_icmp .ne 26, 3) := by decide +kernel
theorem dX12_runs_15 : decode cX12_runs 15 = .ok (.aload_n 0, 1) := by decide +kernel
theorem dX12_runs_16 : decode cX12_runs 16 = .ok (.iload_n 1, 1) := by decide +kernel
theorem dX12_runs_17 : decode cX12_runs 17 = .ok (.aload_n 0, 1) := by decide +kernel
theorem dX12_runs_18 : decode cX12_runs 18 = .ok (.getfield 7, 3) := by decide +kernel
theorem dX12_runs_21 : decode cX12_runs 21 = .ok (.iload_n 1, 1) := by decide +kernel
theorem dX12_runs_22 : decode cX12_runs 22 = .ok (.bipush 12, 2) := by decide +kernel
theorem dX12_runs_24 : decode cX12_runs 24 = .ok (.iadd, 1) := by decide +kernel
theorem dX12_runs_25 : decode cX12_runs 25 = .ok (.iload_n 2, 1) := by decide +kernel
theorem dX12_runs_26 : decode cX12_runs 26 = .ok (.iadd, 1) := by decide +kernel
theorem dX12_runs_27 : decode cX12_runs 27 = .ok (.iaload, 1) := by decide +kernel
theorem dX12_runs_28 : decode cX12_runs 28 = .ok (.invokevirtual 134, 3) := by decide +kernel
theorem dX12_runs_31 : decode cX12_runs 31 = .ok (.ifCond .eq 7, 3) := by decide +kernel
theorem dX12_runs_34 : decode cX12_runs 34 = .ok (.iconst 1, 1) := by decide +kernel
theorem dX12_runs_35 : decode cX12_runs 35 = .ok (.goto 4, 3) := by decide +kernel
theorem dX12_runs_38 : decode cX12_runs 38 = .ok (.iconst 0, 1) := by decide +kernel
theorem dX12_runs_39 : decode cX12_runs 39 = .ok (.ireturn, 1) := by decide +kernel
theorem dX12_flowOf_0 : decode cX12_flowOf 0 = .ok (.iconst 0, 1) := by decide +kernel
theorem dX12_flowOf_1 : decode cX12_flowOf 1 = .ok (.istore_n 3, 1) := by decide +kernel
theorem dX12_flowOf_2 : decode cX12_flowOf 2 = .ok (.iconst 0, 1) := by decide +kernel
theorem dX12_flowOf_3 : decode cX12_flowOf 3 = .ok (.istore 4, 2) := by decide +kernel
theorem dX12_flowOf_5 : decode cX12_flowOf 5 = .ok (.iload 4, 2) := by decide +kernel
theorem dX12_flowOf_7 : decode cX12_flowOf 7 = .ok (.aload_n 0, 1) := by decide +kernel
theorem dX12_flowOf_8 : decode cX12_flowOf 8 = .ok (.getfield 13, 3) := by decide +kernel
theorem dX12_flowOf_11 : decode cX12_flowOf 11 = .ok (.iconst 1, 1) := by decide +kernel
theorem dX12_flowOf_12 : decode cX12_flowOf 12 = .ok (.iaload, 1) := by decide +kernel
theorem dX12_flowOf_13 : decode cX12_flowOf 13 = .ok (.if_icmp .ge 52, 3) := by decide +kernel
theorem dX12_flowOf_16 : decode cX12_flowOf 16 = .ok (.iload_n 3, 1) := by decide +kernel
theorem dX12_flowOf_17 : decode cX12_flowOf 17 = .ok (.aload_n 0, 1) := by decide +kernel
theorem dX12_flowOf_18 : decode cX12_flowOf 18 = .ok (.getfield 7, 3) := by decide +kernel
theorem dX12_flowOf_21 : decode cX12_flowOf 21 = .ok (.iload_n 1, 1) := by decide +kernel
theorem dX12_flowOf_22 : decode cX12_flowOf 22 = .ok (.bipush 12, 2) := by decide +kernel
theorem dX12_flowOf_24 : decode cX12_flowOf 24 = .ok (.iadd, 1) := by decide +kernel
theorem dX12_flowOf_25 : decode cX12_flowOf 25 = .ok (.iload 4, 2) := by decide +kernel
theorem dX12_flowOf_27 : decode cX12_flowOf 27 = .ok (.iadd, 1) := by decide +kernel
theorem dX12_flowOf_28 : decode cX12_flowOf 28 = .ok (.iaload, 1) := by decide +kernel
theorem dX12_flowOf_29 : decode cX12_flowOf 29 = .ok (.iload_n 2, 1) := by decide +kernel
theorem dX12_flowOf_30 : decode cX12_flowOf 30 = .ok (.if_icmp .ne 26, 3) := by decide +kernel
theorem dX12_flowOf_33 : decode cX12_flowOf 33 = .ok (.aload_n 0, 1) := by decide +kernel
theorem dX12_flowOf_34 : decode cX12_flowOf 34 = .ok (.iload_n 1, 1) := by decide +kernel
theorem dX12_flowOf_35 : decode cX12_flowOf 35 = .ok (.iload 4, 2) := by decide +kernel
theorem dX12_flowOf_37 : decode cX12_flowOf 37 = .ok (.invokevirtual 138, 3) := by decide +kernel
theorem dX12_flowOf_40 : decode cX12_flowOf 40 = .ok (.ifCond .eq 16, 3) := by decide +kernel
theorem dX12_flowOf_43 : decode cX12_flowOf 43 = .ok (.aload_n 0, 1) := by decide +kernel
theorem dX12_flowOf_44 : decode cX12_flowOf 44 = .ok (.getfield 13, 3) := by decide +kernel
theorem dX12_flowOf_47 : decode cX12_flowOf 47 = .ok (.bipush 7, 2) := by decide +kernel
theorem dX12_flowOf_49 : decode cX12_flowOf 49 = .ok (.iload 4, 2) := by decide +kernel
theorem dX12_flowOf_51 : decode cX12_flowOf 51 = .ok (.iadd, 1) := by decide +kernel
theorem dX12_flowOf_52 : decode cX12_flowOf 52 = .ok (.iaload, 1) := by decide +kernel
theorem dX12_flowOf_53 : decode cX12_flowOf 53 = .ok (.goto 4, 3) := by decide +kernel
theorem dX12_flowOf_56 : decode cX12_flowOf 56 = .ok (.iconst 0, 1) := by decide +kernel
theorem dX12_flowOf_57 : decode cX12_flowOf 57 = .ok (.iadd, 1) := by decide +kernel
theorem dX12_flowOf_58 : decode cX12_flowOf 58 = .ok (.istore_n 3, 1) := by decide +kernel
theorem dX12_flowOf_59 : decode cX12_flowOf 59 = .ok (.iinc 4 1, 3) := by decide +kernel
theorem dX12_flowOf_62 : decode cX12_flowOf 62 = .ok (.goto (-57), 3) := by decide +kernel
theorem dX12_flowOf_65 : decode cX12_flowOf 65 = .ok (.iload_n 3, 1) := by decide +kernel
theorem dX12_flowOf_66 : decode cX12_flowOf 66 = .ok (.ireturn, 1) := by decide +kernel
theorem dX12_liveOnes_0 : decode cX12_liveOnes 0 = .ok (.iconst 0, 1) := by decide +kernel
theorem dX12_liveOnes_1 : decode cX12_liveOnes 1 = .ok (.istore_n 2, 1) := by decide +kernel
theorem dX12_liveOnes_2 : decode cX12_liveOnes 2 = .ok (.iconst 0, 1) := by decide +kernel
theorem dX12_liveOnes_3 : decode cX12_liveOnes 3 = .ok (.istore_n 3, 1) := by decide +kernel
theorem dX12_liveOnes_4 : decode cX12_liveOnes 4 = .ok (.iload_n 3, 1) := by decide +kernel
theorem dX12_liveOnes_5 : decode cX12_liveOnes 5 = .ok (.aload_n 0, 1) := by decide +kernel
theorem dX12_liveOnes_6 : decode cX12_liveOnes 6 = .ok (.getfield 13, 3) := by decide +kernel
theorem dX12_liveOnes_9 : decode cX12_liveOnes 9 = .ok (.iconst 0, 1) := by decide +kernel
theorem dX12_liveOnes_10 : decode cX12_liveOnes 10 = .ok (.iaload, 1) := by decide +kernel
theorem dX12_liveOnes_11 : decode cX12_liveOnes 11 = .ok (.if_icmp .ge 28, 3) := by decide +kernel
theorem dX12_liveOnes_14 : decode cX12_liveOnes 14 = .ok (.iload_n 2, 1) := by decide +kernel
theorem dX12_liveOnes_15 : decode cX12_liveOnes 15 = .ok (.aload_n 0, 1) := by decide +kernel
theorem dX12_liveOnes_16 : decode cX12_liveOnes 16 = .ok (.iload_n 1, 1) := by decide +kernel
theorem dX12_liveOnes_17 : decode cX12_liveOnes 17 = .ok (.iload_n 3, 1) := by decide +kernel
theorem dX12_liveOnes_18 : decode cX12_liveOnes 18 = .ok (.invokevirtual 134, 3) := by decide +kernel
theorem dX12_liveOnes_21 : decode cX12_liveOnes 21 = .ok (.ifCond .eq 9, 3) := by decide +kernel
theorem dX12_liveOnes_24 : decode cX12_liveOnes 24 = .ok (.iconst 1, 1) := by decide +kernel
theorem dX12_liveOnes_25 : decode cX12_liveOnes 25 = .ok (.iload_n 3, 1) := by decide +kernel
theorem dX12_liveOnes_26 : decode cX12_liveOnes 26 = .ok (.ishl, 1) := by decide +kernel
theorem dX12_liveOnes_27 : decode cX12_liveOnes 27 = .ok (.goto 4, 3) := by decide +kernel
theorem dX12_liveOnes_30 : decode cX12_liveOnes 30 = .ok (.iconst 0, 1) := by decide +kernel
theorem dX12_liveOnes_31 : decode cX12_liveOnes 31 = .ok (.ior, 1) := by decide +kernel
theorem dX12_liveOnes_32 : decode cX12_liveOnes 32 = .ok (.istore_n 2, 1) := by decide +kernel
theorem dX12_liveOnes_33 : decode cX12_liveOnes 33 = .ok (.iinc 3 1, 3) := by decide +kernel
theorem dX12_liveOnes_36 : decode cX12_liveOnes 36 = .ok (.goto (-32), 3) := by decide +kernel
theorem dX12_liveOnes_39 : decode cX12_liveOnes 39 = .ok (.iload_n 2, 1) := by decide +kernel
theorem dX12_liveOnes_40 : decode cX12_liveOnes 40 = .ok (.ireturn, 1) := by decide +kernel
theorem dX12_running_0 : decode cX12_running 0 = .ok (.iconst 0, 1) := by decide +kernel
theorem dX12_running_1 : decode cX12_running 1 = .ok (.istore_n 2, 1) := by decide +kernel
theorem dX12_running_2 : decode cX12_running 2 = .ok (.iconst 0, 1) := by decide +kernel
theorem dX12_running_3 : decode cX12_running 3 = .ok (.istore_n 3, 1) := by decide +kernel
theorem dX12_running_4 : decode cX12_running 4 = .ok (.iload_n 3, 1) := by decide +kernel
theorem dX12_running_5 : decode cX12_running 5 = .ok (.aload_n 0, 1) := by decide +kernel
theorem dX12_running_6 : decode cX12_running 6 = .ok (.getfield 13, 3) := by decide +kernel
theorem dX12_running_9 : decode cX12_running 9 = .ok (.iconst 1, 1) := by decide +kernel
theorem dX12_running_10 : decode cX12_running 10 = .ok (.iaload, 1) := by decide +kernel
theorem dX12_running_11 : decode cX12_running 11 = .ok (.if_icmp .ge 28, 3) := by decide +kernel
theorem dX12_running_14 : decode cX12_running 14 = .ok (.iload_n 2, 1) := by decide +kernel
theorem dX12_running_15 : decode cX12_running 15 = .ok (.aload_n 0, 1) := by decide +kernel
theorem dX12_running_16 : decode cX12_running 16 = .ok (.iload_n 1, 1) := by decide +kernel
theorem dX12_running_17 : decode cX12_running 17 = .ok (.iload_n 3, 1) := by decide +kernel
theorem dX12_running_18 : decode cX12_running 18 = .ok (.invokevirtual 138, 3) := by decide +kernel
theorem dX12_running_21 : decode cX12_running 21 = .ok (.ifCond .eq 9, 3) := by decide +kernel
theorem dX12_running_24 : decode cX12_running 24 = .ok (.iconst 1, 1) := by decide +kernel
theorem dX12_running_25 : decode cX12_running 25 = .ok (.iload_n 3, 1) := by decide +kernel
theorem dX12_running_26 : decode cX12_running 26 = .ok (.ishl, 1) := by decide +kernel
theorem dX12_running_27 : decode cX12_running 27 = .ok (.goto 4, 3) := by decide +kernel
theorem dX12_running_30 : decode cX12_running 30 = .ok (.iconst 0, 1) := by decide +kernel
theorem dX12_running_31 : decode cX12_running 31 = .ok (.ior, 1) := by decide +kernel
theorem dX12_running_32 : decode cX12_running 32 = .ok (.istore_n 2, 1) := by decide +kernel
theorem dX12_running_33 : decode cX12_running 33 = .ok (.iinc 3 1, 3) := by decide +kernel
theorem dX12_running_36 : decode cX12_running 36 = .ok (.goto (-32), 3) := by decide +kernel
theorem dX12_running_39 : decode cX12_running 39 = .ok (.iload_n 2, 1) := by decide +kernel
theorem dX12_running_40 : decode cX12_running 40 = .ok (.ireturn, 1) := by decide +kernel
theorem dX12_deadOnes_0 : decode cX12_deadOnes 0 = .ok (.iconst 0, 1) := by decide +kernel
theorem dX12_deadOnes_1 : decode cX12_deadOnes 1 = .ok (.istore_n 1, 1) := by decide +kernel
theorem dX12_deadOnes_2 : decode cX12_deadOnes 2 = .ok (.iconst 0, 1) := by decide +kernel
theorem dX12_deadOnes_3 : decode cX12_deadOnes 3 = .ok (.istore_n 2, 1) := by decide +kernel
theorem dX12_deadOnes_4 : decode cX12_deadOnes 4 = .ok (.iload_n 2, 1) := by decide +kernel
theorem dX12_deadOnes_5 : decode cX12_deadOnes 5 = .ok (.aload_n 0, 1) := by decide +kernel
theorem dX12_deadOnes_6 : decode cX12_deadOnes 6 = .ok (.getfield 13, 3) := by decide +kernel
theorem dX12_deadOnes_9 : decode cX12_deadOnes 9 = .ok (.iconst 0, 1) := by decide +kernel
theorem dX12_deadOnes_10 : decode cX12_deadOnes 10 = .ok (.iaload, 1) := by decide +kernel
theorem dX12_deadOnes_11 : decode cX12_deadOnes 11 = .ok (.if_icmp .ge 30, 3) := by decide +kernel
theorem dX12_deadOnes_14 : decode cX12_deadOnes 14 = .ok (.iload_n 1, 1) := by decide +kernel
theorem dX12_deadOnes_15 : decode cX12_deadOnes 15 = .ok (.aload_n 0, 1) := by decide +kernel
theorem dX12_deadOnes_16 : decode cX12_deadOnes 16 = .ok (.getfield 7, 3) := by decide +kernel
theorem dX12_deadOnes_19 : decode cX12_deadOnes 19 = .ok (.iconst 4, 1) := by decide +kernel
theorem dX12_deadOnes_20 : decode cX12_deadOnes 20 = .ok (.iload_n 2, 1) := by decide +kernel
theorem dX12_deadOnes_21 : decode cX12_deadOnes 21 = .ok (.iadd, 1) := by decide +kernel
theorem dX12_deadOnes_22 : decode cX12_deadOnes 22 = .ok (.iaload, 1) := by decide +kernel
theorem dX12_deadOnes_23 : decode cX12_deadOnes 23 = .ok (.ifCond .le 9, 3) := by decide +kernel
theorem dX12_deadOnes_26 : decode cX12_deadOnes 26 = .ok (.iconst 1, 1) := by decide +kernel
theorem dX12_deadOnes_27 : decode cX12_deadOnes 27 = .ok (.iload_n 2, 1) := by decide +kernel
theorem dX12_deadOnes_28 : decode cX12_deadOnes 28 = .ok (.ishl, 1) := by decide +kernel
theorem dX12_deadOnes_29 : decode cX12_deadOnes 29 = .ok (.goto 4, 3) := by decide +kernel
theorem dX12_deadOnes_32 : decode cX12_deadOnes 32 = .ok (.iconst 0, 1) := by decide +kernel
theorem dX12_deadOnes_33 : decode cX12_deadOnes 33 = .ok (.ior, 1) := by decide +kernel
theorem dX12_deadOnes_34 : decode cX12_deadOnes 34 = .ok (.istore_n 1, 1) := by decide +kernel
theorem dX12_deadOnes_35 : decode cX12_deadOnes 35 = .ok (.iinc 2 1, 3) := by decide +kernel
theorem dX12_deadOnes_38 : decode cX12_deadOnes 38 = .ok (.goto (-34), 3) := by decide +kernel
theorem dX12_deadOnes_41 : decode cX12_deadOnes 41 = .ok (.iload_n 1, 1) := by decide +kernel
theorem dX12_deadOnes_42 : decode cX12_deadOnes 42 = .ok (.ireturn, 1) := by decide +kernel
theorem dX12_heats_0 : decode cX12_heats 0 = .ok (.aload_n 0, 1) := by decide +kernel
theorem dX12_heats_1 : decode cX12_heats 1 = .ok (.getfield 13, 3) := by decide +kernel
theorem dX12_heats_4 : decode cX12_heats 4 = .ok (.iconst 3, 1) := by decide +kernel
theorem dX12_heats_5 : decode cX12_heats 5 = .ok (.iload_n 2, 1) := by decide +kernel
theorem dX12_heats_6 : decode cX12_heats 6 = .ok (.iadd, 1) := by decide +kernel
theorem dX12_heats_7 : decode cX12_heats 7 = .ok (.iaload, 1) := by decide +kernel
theorem dX12_heats_8 : decode cX12_heats 8 = .ok (.istore 4, 2) := by decide +kernel
theorem dX12_heats_10 : decode cX12_heats 10 = .ok (.iload_n 3, 1) := by decide +kernel
theorem dX12_heats_11 : decode cX12_heats 11 = .ok (.aload_n 0, 1) := by decide +kernel
theorem dX12_heats_12 : decode cX12_heats 12 = .ok (.getfield 7, 3) := by decide +kernel
theorem dX12_heats_15 : decode cX12_heats 15 = .ok (.iload_n 1, 1) := by decide +kernel
theorem dX12_heats_16 : decode cX12_heats 16 = .ok (.bipush 8, 2) := by decide +kernel
theorem dX12_heats_18 : decode cX12_heats 18 = .ok (.iadd, 1) := by decide +kernel
theorem dX12_heats_19 : decode cX12_heats 19 = .ok (.iload_n 2, 1) := by decide +kernel
theorem dX12_heats_20 : decode cX12_heats 20 = .ok (.iadd, 1) := by decide +kernel
theorem dX12_heats_21 : decode cX12_heats 21 = .ok (.iaload, 1) := by decide +kernel
theorem dX12_heats_22 : decode cX12_heats 22 = .ok (.isub, 1) := by decide +kernel
theorem dX12_heats_23 : decode cX12_heats 23 = .ok (.istore 5, 2) := by decide +kernel
theorem dX12_heats_25 : decode cX12_heats 25 = .ok (.iload 4, 2) := by decide +kernel
theorem dX12_heats_27 : decode cX12_heats 27 = .ok (.iconst 3, 1) := by decide +kernel
theorem dX12_heats_28 : decode cX12_heats 28 = .ok (.if_icmp .le 34, 3) := by decide +kernel
theorem dX12_heats_31 : decode cX12_heats 31 = .ok (.aload_n 0, 1) := by decide +kernel
theorem dX12_heats_32 : decode cX12_heats 32 = .ok (.getfield 7, 3) := by decide +kernel
theorem dX12_heats_35 : decode cX12_heats 35 = .ok (.iload_n 1, 1) := by decide +kernel
theorem dX12_heats_36 : decode cX12_heats 36 = .ok (.iconst 4, 1) := by decide +kernel
theorem dX12_heats_37 : decode cX12_heats 37 = .ok (.iadd, 1) := by decide +kernel
theorem dX12_heats_38 : decode cX12_heats 38 = .ok (.iload_n 2, 1) := by decide +kernel
theorem dX12_heats_39 : decode cX12_heats 39 = .ok (.iadd, 1) := by decide +kernel
theorem dX12_heats_40 : decode cX12_heats 40 = .ok (.iload 5, 2) := by decide +kernel
theorem dX12_heats_42 : decode cX12_heats 42 = .ok (.ifCond .gt 7, 3) := by decide +kernel
theorem dX12_heats_45 : decode cX12_heats 45 = .ok (.iconst 0, 1) := by decide +kernel
theorem dX12_heats_46 : decode cX12_heats 46 = .ok (.goto 14, 3) := by decide +kernel
theorem dX12_heats_49 : decode cX12_heats 49 = .ok (.iload 4, 2) := by decide +kernel
theorem dX12_heats_51 : decode cX12_heats 51 = .ok (.iconst 5, 1) := by decide +kernel
theorem dX12_heats_52 : decode cX12_heats 52 = .ok (.if_icmp .ne 7, 3) := by decide +kernel
theorem dX12_heats_55 : decode cX12_heats 55 = .ok (.iconst 3, 1) := by decide +kernel
theorem dX12_heats_56 : decode cX12_heats 56 = .ok (.goto 4, 3) := by decide +kernel
theorem dX12_heats_59 : decode cX12_heats 59 = .ok (.iconst 1, 1) := by decide +kernel
theorem dX12_heats_60 : decode cX12_heats 60 = .ok (.iastore, 1) := by decide +kernel
theorem dX12_heats_61 : decode cX12_heats 61 = .ok (.return_, 1) := by decide +kernel
theorem dX12_heats_62 : decode cX12_heats 62 = .ok (.iload 5, 2) := by decide +kernel
theorem dX12_heats_64 : decode cX12_heats 64 = .ok (.ifCond .gt 7, 3) := by decide +kernel
theorem dX12_heats_67 : decode cX12_heats 67 = .ok (.iconst (-1), 1) := by decide +kernel
theorem dX12_heats_68 : decode cX12_heats 68 = .ok (.goto 18, 3) := by decide +kernel
theorem dX12_heats_71 : decode cX12_heats 71 = .ok (.iload 4, 2) := by decide +kernel
theorem dX12_heats_73 : decode cX12_heats 73 = .ok (.iconst 2, 1) := by decide +kernel
theorem dX12_heats_74 : decode cX12_heats 74 = .ok (.if_icmp .ne 10, 3) := by decide +kernel
theorem dX12_heats_77 : decode cX12_heats 77 = .ok (.iload 5, 2) := by decide +kernel
theorem dX12_heats_79 : decode cX12_heats 79 = .ok (.iconst 2, 1) := by decide +kernel
theorem dX12_heats_80 : decode cX12_heats 80 = .ok (.idiv, 1) := by decide +kernel
theorem dX12_heats_81 : decode cX12_heats 81 = .ok (.goto 5, 3) := by decide +kernel
theorem dX12_heats_84 : decode cX12_heats 84 = .ok (.iload 5, 2) := by decide +kernel
theorem dX12_heats_86 : decode cX12_heats 86 = .ok (.istore 6, 2) := by decide +kernel
theorem dX12_heats_88 : decode cX12_heats 88 = .ok (.aload_n 0, 1) := by decide +kernel
theorem dX12_heats_89 : decode cX12_heats 89 = .ok (.getfield 7, 3) := by decide +kernel
theorem dX12_heats_92 : decode cX12_heats 92 = .ok (.iload_n 1, 1) := by decide +kernel
theorem dX12_heats_93 : decode cX12_heats 93 = .ok (.iload_n 2, 1) := by decide +kernel
theorem dX12_heats_94 : decode cX12_heats 94 = .ok (.iadd, 1) := by decide +kernel
theorem dX12_heats_95 : decode cX12_heats 95 = .ok (.iaload, 1) := by decide +kernel
theorem dX12_heats_96 : decode cX12_heats 96 = .ok (.iload 6, 2) := by decide +kernel
theorem dX12_heats_98 : decode cX12_heats 98 = .ok (.iadd, 1) := by decide +kernel
theorem dX12_heats_99 : decode cX12_heats 99 = .ok (.istore 7, 2) := by decide +kernel
theorem dX12_heats_101 : decode cX12_heats 101 = .ok (.iload 7, 2) := by decide +kernel
theorem dX12_heats_103 : decode cX12_heats 103 = .ok (.ifCond .ge 7, 3) := by decide +kernel
theorem dX12_heats_106 : decode cX12_heats 106 = .ok (.iconst 0, 1) := by decide +kernel
theorem dX12_heats_107 : decode cX12_heats 107 = .ok (.goto 17, 3) := by decide +kernel
theorem dX12_heats_110 : decode cX12_heats 110 = .ok (.iload 7, 2) := by decide +kernel
theorem dX12_heats_112 : decode cX12_heats 112 = .ok (.bipush 99, 2) := by decide +kernel
theorem dX12_heats_114 : decode cX12_heats 114 = .ok (.if_icmp .le 8, 3) := by decide +kernel
theorem dX12_heats_117 : decode cX12_heats 117 = .ok (.bipush 99, 2) := by decide +kernel
theorem dX12_heats_119 : decode cX12_heats 119 = .ok (.goto 5, 3) := by decide +kernel
theorem dX12_heats_122 : decode cX12_heats 122 = .ok (.iload 7, 2) := by decide +kernel
theorem dX12_heats_124 : decode cX12_heats 124 = .ok (.istore 7, 2) := by decide +kernel
theorem dX12_heats_126 : decode cX12_heats 126 = .ok (.aload_n 0, 1) := by decide +kernel
theorem dX12_heats_127 : decode cX12_heats 127 = .ok (.getfield 7, 3) := by decide +kernel
theorem dX12_heats_130 : decode cX12_heats 130 = .ok (.iload_n 1, 1) := by decide +kernel
theorem dX12_heats_131 : decode cX12_heats 131 = .ok (.iload_n 2, 1) := by decide +kernel
theorem dX12_heats_132 : decode cX12_heats 132 = .ok (.iadd, 1) := by decide +kernel
theorem dX12_heats_133 : decode cX12_heats 133 = .ok (.iload 7, 2) := by decide +kernel
theorem dX12_heats_135 : decode cX12_heats 135 = .ok (.iastore, 1) := by decide +kernel
theorem dX12_heats_136 : decode cX12_heats 136 = .ok (.iload 7, 2) := by decide +kernel
theorem dX12_heats_138 : decode cX12_heats 138 = .ok (.bipush 10, 2) := by decide +kernel
theorem dX12_heats_140 : decode cX12_heats 140 = .ok (.if_icmp .ge 26, 3) := by decide +kernel
theorem dX12_heats_143 : decode cX12_heats 143 = .ok (.iload 4, 2) := by decide +kernel
theorem dX12_heats_145 : decode cX12_heats 145 = .ok (.iconst 3, 1) := by decide +kernel
theorem dX12_heats_146 : decode cX12_heats 146 = .ok (.if_icmp .ne 24, 3) := by decide +kernel
theorem dX12_heats_149 : decode cX12_heats 149 = .ok (.iload_n 3, 1) := by decide +kernel
theorem dX12_heats_150 : decode cX12_heats 150 = .ok (.iconst 2, 1) := by decide +kernel
theorem dX12_heats_151 : decode cX12_heats 151 = .ok (.aload_n 0, 1) := by decide +kernel
theorem dX12_heats_152 : decode cX12_heats 152 = .ok (.getfield 7, 3) := by decide +kernel
theorem dX12_heats_155 : decode cX12_heats 155 = .ok (.iload_n 1, 1) := by decide +kernel
theorem dX12_heats_156 : decode cX12_heats 156 = .ok (.bipush 8, 2) := by decide +kernel
theorem dX12_heats_158 : decode cX12_heats 158 = .ok (.iadd, 1) := by decide +kernel
theorem dX12_heats_159 : decode cX12_heats 159 = .ok (.iload_n 2, 1) := by decide +kernel
theorem dX12_heats_160 : decode cX12_heats 160 = .ok (.iadd, 1) := by decide +kernel
theorem dX12_heats_161 : decode cX12_heats 161 = .ok (.iaload, 1) := by decide +kernel
theorem dX12_heats_162 : decode cX12_heats 162 = .ok (.imul, 1) := by decide +kernel
theorem dX12_heats_163 : decode cX12_heats 163 = .ok (.if_icmp .lt 7, 3) := by decide +kernel
theorem dX12_heats_166 : decode cX12_heats 166 = .ok (.iconst 1, 1) := by decide +kernel
theorem dX12_heats_167 : decode cX12_heats 167 = .ok (.goto 4, 3) := by decide +kernel
theorem dX12_heats_170 : decode cX12_heats 170 = .ok (.iconst 0, 1) := by decide +kernel
theorem dX12_heats_171 : decode cX12_heats 171 = .ok (.istore 8, 2) := by decide +kernel
theorem dX12_heats_173 : decode cX12_heats 173 = .ok (.aload_n 0, 1) := by decide +kernel
theorem dX12_heats_174 : decode cX12_heats 174 = .ok (.getfield 7, 3) := by decide +kernel
theorem dX12_heats_177 : decode cX12_heats 177 = .ok (.iload_n 1, 1) := by decide +kernel
theorem dX12_heats_178 : decode cX12_heats 178 = .ok (.iconst 4, 1) := by decide +kernel
theorem dX12_heats_179 : decode cX12_heats 179 = .ok (.iadd, 1) := by decide +kernel
theorem dX12_heats_180 : decode cX12_heats 180 = .ok (.iload_n 2, 1) := by decide +kernel
theorem dX12_heats_181 : decode cX12_heats 181 = .ok (.iadd, 1) := by decide +kernel
theorem dX12_heats_182 : decode cX12_heats 182 = .ok (.iload 8, 2) := by decide +kernel
theorem dX12_heats_184 : decode cX12_heats 184 = .ok (.ifCond .eq 7, 3) := by decide +kernel
theorem dX12_heats_187 : decode cX12_heats 187 = .ok (.iconst 1, 1) := by decide +kernel
theorem dX12_heats_188 : decode cX12_heats 188 = .ok (.goto 4, 3) := by decide +kernel
theorem dX12_heats_191 : decode cX12_heats 191 = .ok (.iconst 0, 1) := by decide +kernel
theorem dX12_heats_192 : decode cX12_heats 192 = .ok (.iastore, 1) := by decide +kernel
theorem dX12_heats_193 : decode cX12_heats 193 = .ok (.return_, 1) := by decide +kernel
theorem dX12_cools_0 : decode cX12_cools 0 = .ok (.aload_n 0, 1) := by decide +kernel
theorem dX12_cools_1 : decode cX12_cools 1 = .ok (.getfield 7, 3) := by decide +kernel
theorem dX12_cools_4 : decode cX12_cools 4 = .ok (.iload_n 1, 1) := by decide +kernel
theorem dX12_cools_5 : decode cX12_cools 5 = .ok (.iload_n 2, 1) := by decide +kernel
theorem dX12_cools_6 : decode cX12_cools 6 = .ok (.iadd, 1) := by decide +kernel
theorem dX12_cools_7 : decode cX12_cools 7 = .ok (.iconst 0, 1) := by decide +kernel
theorem dX12_cools_8 : decode cX12_cools 8 = .ok (.aload_n 0, 1) := by decide +kernel
theorem dX12_cools_9 : decode cX12_cools 9 = .ok (.getfield 7, 3) := by decide +kernel
theorem dX12_cools_12 : decode cX12_cools 12 = .ok (.iload_n 1, 1) := by decide +kernel
theorem dX12_cools_13 : decode cX12_cools 13 = .ok (.iload_n 2, 1) := by decide +kernel
theorem dX12_cools_14 : decode cX12_cools 14 = .ok (.iadd, 1) := by decide +kernel
theorem dX12_cools_15 : decode cX12_cools 15 = .ok (.iaload, 1) := by decide +kernel
theorem dX12_cools_16 : decode cX12_cools 16 = .ok (.iconst 1, 1) := by decide +kernel
theorem dX12_cools_17 : decode cX12_cools 17 = .ok (.isub, 1) := by decide +kernel
theorem dX12_cools_18 : decode cX12_cools 18 = .ok (.invokestatic 141, 3) := by decide +kernel
theorem dX12_cools_21 : decode cX12_cools 21 = .ok (.iastore, 1) := by decide +kernel
theorem dX12_cools_22 : decode cX12_cools 22 = .ok (.aload_n 0, 1) := by decide +kernel
theorem dX12_cools_23 : decode cX12_cools 23 = .ok (.getfield 13, 3) := by decide +kernel
theorem dX12_cools_26 : decode cX12_cools 26 = .ok (.iconst 3, 1) := by decide +kernel
theorem dX12_cools_27 : decode cX12_cools 27 = .ok (.iload_n 2, 1) := by decide +kernel
theorem dX12_cools_28 : decode cX12_cools 28 = .ok (.iadd, 1) := by decide +kernel
theorem dX12_cools_29 : decode cX12_cools 29 = .ok (.iaload, 1) := by decide +kernel
theorem dX12_cools_30 : decode cX12_cools 30 = .ok (.iconst 5, 1) := by decide +kernel
theorem dX12_cools_31 : decode cX12_cools 31 = .ok (.if_icmp .ne 30, 3) := by decide +kernel
theorem dX12_cools_34 : decode cX12_cools 34 = .ok (.aload_n 0, 1) := by decide +kernel
theorem dX12_cools_35 : decode cX12_cools 35 = .ok (.getfield 7, 3) := by decide +kernel
theorem dX12_cools_38 : decode cX12_cools 38 = .ok (.iload_n 1, 1) := by decide +kernel
theorem dX12_cools_39 : decode cX12_cools 39 = .ok (.iconst 4, 1) := by decide +kernel
theorem dX12_cools_40 : decode cX12_cools 40 = .ok (.iadd, 1) := by decide +kernel
theorem dX12_cools_41 : decode cX12_cools 41 = .ok (.iload_n 2, 1) := by decide +kernel
theorem dX12_cools_42 : decode cX12_cools 42 = .ok (.iadd, 1) := by decide +kernel
theorem dX12_cools_43 : decode cX12_cools 43 = .ok (.iaload, 1) := by decide +kernel
theorem dX12_cools_44 : decode cX12_cools 44 = .ok (.ifCond .le 17, 3) := by decide +kernel
theorem dX12_cools_47 : decode cX12_cools 47 = .ok (.aload_n 0, 1) := by decide +kernel
theorem dX12_cools_48 : decode cX12_cools 48 = .ok (.getfield 7, 3) := by decide +kernel
theorem dX12_cools_51 : decode cX12_cools 51 = .ok (.iload_n 1, 1) := by decide +kernel
theorem dX12_cools_52 : decode cX12_cools 52 = .ok (.iconst 4, 1) := by decide +kernel
theorem dX12_cools_53 : decode cX12_cools 53 = .ok (.iadd, 1) := by decide +kernel
theorem dX12_cools_54 : decode cX12_cools 54 = .ok (.iload_n 2, 1) := by decide +kernel
theorem dX12_cools_55 : decode cX12_cools 55 = .ok (.iadd, 1) := by decide +kernel
theorem dX12_cools_56 : decode cX12_cools 56 = .ok (.dup2, 1) := by decide +kernel
theorem dX12_cools_57 : decode cX12_cools 57 = .ok (.iaload, 1) := by decide +kernel
theorem dX12_cools_58 : decode cX12_cools 58 = .ok (.iconst 1, 1) := by decide +kernel
theorem dX12_cools_59 : decode cX12_cools 59 = .ok (.isub, 1) := by decide +kernel
theorem dX12_cools_60 : decode cX12_cools 60 = .ok (.iastore, 1) := by decide +kernel
theorem dX12_cools_61 : decode cX12_cools 61 = .ok (.return_, 1) := by decide +kernel
theorem dX12_passes_0 : decode cX12_passes 0 = .ok (.aload_n 0, 1) := by decide +kernel
theorem dX12_passes_1 : decode cX12_passes 1 = .ok (.iload_n 1, 1) := by decide +kernel
theorem dX12_passes_2 : decode cX12_passes 2 = .ok (.invokevirtual 144, 3) := by decide +kernel
theorem dX12_passes_5 : decode cX12_passes 5 = .ok (.istore_n 2, 1) := by decide +kernel
theorem dX12_passes_6 : decode cX12_passes 6 = .ok (.iconst 0, 1) := by decide +kernel
theorem dX12_passes_7 : decode cX12_passes 7 = .ok (.istore_n 3, 1) := by decide +kernel
theorem dX12_passes_8 : decode cX12_passes 8 = .ok (.iconst 0, 1) := by decide +kernel
theorem dX12_passes_9 : decode cX12_passes 9 = .ok (.istore 4, 2) := by decide +kernel
theorem dX12_passes_11 : decode cX12_passes 11 = .ok (.iload 4, 2) := by decide +kernel
theorem dX12_passes_13 : decode cX12_passes 13 = .ok (.aload_n 0, 1) := by decide +kernel
theorem dX12_passes_14 : decode cX12_passes 14 = .ok (.getfield 13, 3) := by decide +kernel
theorem dX12_passes_17 : decode cX12_passes 17 = .ok (.iconst 0, 1) := by decide +kernel
theorem dX12_passes_18 : decode cX12_passes 18 = .ok (.iaload, 1) := by decide +kernel
theorem dX12_passes_19 : decode cX12_passes 19 = .ok (.if_icmp .ge 33, 3) := by decide +kernel
theorem dX12_passes_22 : decode cX12_passes 22 = .ok (.aload_n 0, 1) := by decide +kernel
theorem dX12_passes_23 : decode cX12_passes 23 = .ok (.getfield 50, 3) := by decide +kernel
theorem dX12_passes_26 : decode cX12_passes 26 = .ok (.iload 4, 2) := by decide +kernel
theorem dX12_passes_28 : decode cX12_passes 28 = .ok (.aload_n 0, 1) := by decide +kernel
theorem dX12_passes_29 : decode cX12_passes 29 = .ok (.iload_n 1, 1) := by decide +kernel
theorem dX12_passes_30 : decode cX12_passes 30 = .ok (.iload 4, 2) := by decide +kernel
theorem dX12_passes_32 : decode cX12_passes 32 = .ok (.invokevirtual 147, 3) := by decide +kernel
theorem dX12_passes_35 : decode cX12_passes 35 = .ok (.iastore, 1) := by decide +kernel
theorem dX12_passes_36 : decode cX12_passes 36 = .ok (.iload_n 3, 1) := by decide +kernel
theorem dX12_passes_37 : decode cX12_passes 37 = .ok (.aload_n 0, 1) := by decide +kernel
theorem dX12_passes_38 : decode cX12_passes 38 = .ok (.getfield 50, 3) := by decide +kernel
theorem dX12_passes_41 : decode cX12_passes 41 = .ok (.iload 4, 2) := by decide +kernel
theorem dX12_passes_43 : decode cX12_passes 43 = .ok (.iaload, 1) := by decide +kernel
theorem dX12_passes_44 : decode cX12_passes 44 = .ok (.iadd, 1) := by decide +kernel
theorem dX12_passes_45 : decode cX12_passes 45 = .ok (.istore_n 3, 1) := by decide +kernel
theorem dX12_passes_46 : decode cX12_passes 46 = .ok (.iinc 4 1, 3) := by decide +kernel
theorem dX12_passes_49 : decode cX12_passes 49 = .ok (.goto (-38), 3) := by decide +kernel
theorem dX12_passes_52 : decode cX12_passes 52 = .ok (.iconst 0, 1) := by decide +kernel
theorem dX12_passes_53 : decode cX12_passes 53 = .ok (.istore 4, 2) := by decide +kernel
theorem dX12_passes_55 : decode cX12_passes 55 = .ok (.iload 4, 2) := by decide +kernel
theorem dX12_passes_57 : decode cX12_passes 57 = .ok (.aload_n 0, 1) := by decide +kernel
theorem dX12_passes_58 : decode cX12_passes 58 = .ok (.getfield 13, 3) := by decide +kernel
theorem dX12_passes_61 : decode cX12_passes 61 = .ok (.iconst 0, 1) := by decide +kernel
theorem dX12_passes_62 : decode cX12_passes 62 = .ok (.iaload, 1) := by decide +kernel
theorem dX12_passes_63 : decode cX12_passes 63 = .ok (.if_icmp .ge 42, 3) := by decide +kernel
theorem dX12_passes_66 : decode cX12_passes 66 = .ok (.iload_n 2, 1) := by decide +kernel
theorem dX12_passes_67 : decode cX12_passes 67 = .ok (.iload 4, 2) := by decide +kernel
theorem dX12_passes_69 : decode cX12_passes 69 = .ok (.invokestatic 150, 3) := by decide +kernel
theorem dX12_passes_72 : decode cX12_passes 72 = .ok (.ifCond .eq 20, 3) := by decide +kernel
theorem dX12_passes_75 : decode cX12_passes 75 = .ok (.aload_n 0, 1) := by decide +kernel
theorem dX12_passes_76 : decode cX12_passes 76 = .ok (.iload_n 1, 1) := by decide +kernel
theorem dX12_passes_77 : decode cX12_passes 77 = .ok (.iload 4, 2) := by decide +kernel
theorem dX12_passes_79 : decode cX12_passes 79 = .ok (.aload_n 0, 1) := by decide +kernel
theorem dX12_passes_80 : decode cX12_passes 80 = .ok (.getfield 50, 3) := by decide +kernel
theorem dX12_passes_83 : decode cX12_passes 83 = .ok (.iload 4, 2) := by decide +kernel
theorem dX12_passes_85 : decode cX12_passes 85 = .ok (.iaload, 1) := by decide +kernel
theorem dX12_passes_86 : decode cX12_passes 86 = .ok (.invokevirtual 153, 3) := by decide +kernel
theorem dX12_passes_89 : decode cX12_passes 89 = .ok (.goto 10, 3) := by decide +kernel
theorem dX12_passes_92 : decode cX12_passes 92 = .ok (.aload_n 0, 1) := by decide +kernel
theorem dX12_passes_93 : decode cX12_passes 93 = .ok (.iload_n 1, 1) := by decide +kernel
theorem dX12_passes_94 : decode cX12_passes 94 = .ok (.iload 4, 2) := by decide +kernel
theorem dX12_passes_96 : decode cX12_passes 96 = .ok (.invokevirtual 157, 3) := by decide +kernel
theorem dX12_passes_99 : decode cX12_passes 99 = .ok (.iinc 4 1, 3) := by decide +kernel
theorem dX12_passes_102 : decode cX12_passes 102 = .ok (.goto (-47), 3) := by decide +kernel
theorem dX12_passes_105 : decode cX12_passes 105 = .ok (.aload_n 0, 1) := by decide +kernel
theorem dX12_passes_106 : decode cX12_passes 106 = .ok (.getfield 7, 3) := by decide +kernel
theorem dX12_passes_109 : decode cX12_passes 109 = .ok (.iload_n 1, 1) := by decide +kernel
theorem dX12_passes_110 : decode cX12_passes 110 = .ok (.bipush 24, 2) := by decide +kernel
theorem dX12_passes_112 : decode cX12_passes 112 = .ok (.iadd, 1) := by decide +kernel
theorem dX12_passes_113 : decode cX12_passes 113 = .ok (.iload_n 3, 1) := by decide +kernel
theorem dX12_passes_114 : decode cX12_passes 114 = .ok (.aload_n 0, 1) := by decide +kernel
theorem dX12_passes_115 : decode cX12_passes 115 = .ok (.getfield 13, 3) := by decide +kernel
theorem dX12_passes_118 : decode cX12_passes 118 = .ok (.iconst 2, 1) := by decide +kernel
theorem dX12_passes_119 : decode cX12_passes 119 = .ok (.iaload, 1) := by decide +kernel
theorem dX12_passes_120 : decode cX12_passes 120 = .ok (.if_icmp .le 7, 3) := by decide +kernel
theorem dX12_passes_123 : decode cX12_passes 123 = .ok (.iconst 1, 1) := by decide +kernel
theorem dX12_passes_124 : decode cX12_passes 124 = .ok (.goto 12, 3) := by decide +kernel
theorem dX12_passes_127 : decode cX12_passes 127 = .ok (.aload_n 0, 1) := by decide +kernel
theorem dX12_passes_128 : decode cX12_passes 128 = .ok (.getfield 7, 3) := by decide +kernel
theorem dX12_passes_131 : decode cX12_passes 131 = .ok (.iload_n 1, 1) := by decide +kernel
theorem dX12_passes_132 : decode cX12_passes 132 = .ok (.bipush 24, 2) := by decide +kernel
theorem dX12_passes_134 : decode cX12_passes 134 = .ok (.iadd, 1) := by decide +kernel
theorem dX12_passes_135 : decode cX12_passes 135 = .ok (.iaload, 1) := by decide +kernel
theorem dX12_passes_136 : decode cX12_passes 136 = .ok (.iastore, 1) := by decide +kernel
theorem dX12_passes_137 : decode cX12_passes 137 = .ok (.aload_n 0, 1) := by decide +kernel
theorem dX12_passes_138 : decode cX12_passes 138 = .ok (.getfield 7, 3) := by decide +kernel
theorem dX12_passes_141 : decode cX12_passes 141 = .ok (.iload_n 1, 1) := by decide +kernel
theorem dX12_passes_142 : decode cX12_passes 142 = .ok (.bipush 25, 2) := by decide +kernel
theorem dX12_passes_144 : decode cX12_passes 144 = .ok (.iadd, 1) := by decide +kernel
theorem dX12_passes_145 : decode cX12_passes 145 = .ok (.aload_n 0, 1) := by decide +kernel
theorem dX12_passes_146 : decode cX12_passes 146 = .ok (.getfield 7, 3) := by decide +kernel
theorem dX12_passes_149 : decode cX12_passes 149 = .ok (.iload_n 1, 1) := by decide +kernel
theorem dX12_passes_150 : decode cX12_passes 150 = .ok (.bipush 25, 2) := by decide +kernel
theorem dX12_passes_152 : decode cX12_passes 152 = .ok (.iadd, 1) := by decide +kernel
theorem dX12_passes_153 : decode cX12_passes 153 = .ok (.iaload, 1) := by decide +kernel
theorem dX12_passes_154 : decode cX12_passes 154 = .ok (.iload_n 3, 1) := by decide +kernel
theorem dX12_passes_155 : decode cX12_passes 155 = .ok (.iadd, 1) := by decide +kernel
theorem dX12_passes_156 : decode cX12_passes 156 = .ok (.ldc 161, 2) := by decide +kernel
theorem dX12_passes_158 : decode cX12_passes 158 = .ok (.if_icmp .le 8, 3) := by decide +kernel
theorem dX12_passes_161 : decode cX12_passes 161 = .ok (.ldc 161, 2) := by decide +kernel
theorem dX12_passes_163 : decode cX12_passes 163 = .ok (.goto 14, 3) := by decide +kernel
theorem dX12_passes_166 : decode cX12_passes 166 = .ok (.aload_n 0, 1) := by decide +kernel
theorem dX12_passes_167 : decode cX12_passes 167 = .ok (.getfield 7, 3) := by decide +kernel
theorem dX12_passes_170 : decode cX12_passes 170 = .ok (.iload_n 1, 1) := by decide +kernel
theorem dX12_passes_171 : decode cX12_passes 171 = .ok (.bipush 25, 2) := by decide +kernel
theorem dX12_passes_173 : decode cX12_passes 173 = .ok (.iadd, 1) := by decide +kernel
theorem dX12_passes_174 : decode cX12_passes 174 = .ok (.iaload, 1) := by decide +kernel
theorem dX12_passes_175 : decode cX12_passes 175 = .ok (.iload_n 3, 1) := by decide +kernel
theorem dX12_passes_176 : decode cX12_passes 176 = .ok (.iadd, 1) := by decide +kernel
theorem dX12_passes_177 : decode cX12_passes 177 = .ok (.iastore, 1) := by decide +kernel
theorem dX12_passes_178 : decode cX12_passes 178 = .ok (.aload_n 0, 1) := by decide +kernel
theorem dX12_passes_179 : decode cX12_passes 179 = .ok (.getfield 7, 3) := by decide +kernel
theorem dX12_passes_182 : decode cX12_passes 182 = .ok (.iload_n 1, 1) := by decide +kernel
theorem dX12_passes_183 : decode cX12_passes 183 = .ok (.bipush 26, 2) := by decide +kernel
theorem dX12_passes_185 : decode cX12_passes 185 = .ok (.iadd, 1) := by decide +kernel
theorem dX12_passes_186 : decode cX12_passes 186 = .ok (.dup2, 1) := by decide +kernel
theorem dX12_passes_187 : decode cX12_passes 187 = .ok (.iaload, 1) := by decide +kernel
theorem dX12_passes_188 : decode cX12_passes 188 = .ok (.iconst 1, 1) := by decide +kernel
theorem dX12_passes_189 : decode cX12_passes 189 = .ok (.iadd, 1) := by decide +kernel
theorem dX12_passes_190 : decode cX12_passes 190 = .ok (.iastore, 1) := by decide +kernel
theorem dX12_passes_191 : decode cX12_passes 191 = .ok (.return_, 1) := by decide +kernel
theorem dX12_copies_0 : decode cX12_copies 0 = .ok (.iconst 0, 1) := by decide +kernel
theorem dX12_copies_1 : decode cX12_copies 1 = .ok (.istore_n 3, 1) := by decide +kernel
theorem dX12_copies_2 : decode cX12_copies 2 = .ok (.iload_n 3, 1) := by decide +kernel
theorem dX12_copies_3 : decode cX12_copies 3 = .ok (.bipush 27, 2) := by decide +kernel
theorem dX12_copies_5 : decode cX12_copies 5 = .ok (.if_icmp .ge 25, 3) := by decide +kernel
theorem dX12_copies_8 : decode cX12_copies 8 = .ok (.aload_n 0, 1) := by decide +kernel
theorem dX12_copies_9 : decode cX12_copies 9 = .ok (.getfield 7, 3) := by decide +kernel
theorem dX12_copies_12 : decode cX12_copies 12 = .ok (.iload_n 2, 1) := by decide +kernel
theorem dX12_copies_13 : decode cX12_copies 13 = .ok (.iload_n 3, 1) := by decide +kernel
theorem dX12_copies_14 : decode cX12_copies 14 = .ok (.iadd, 1) := by decide +kernel
theorem dX12_copies_15 : decode cX12_copies 15 = .ok (.aload_n 0, 1) := by decide +kernel
theorem dX12_copies_16 : decode cX12_copies 16 = .ok (.getfield 7, 3) := by decide +kernel
theorem dX12_copies_19 : decode cX12_copies 19 = .ok (.iload_n 1, 1) := by decide +kernel
theorem dX12_copies_20 : decode cX12_copies 20 = .ok (.iload_n 3, 1) := by decide +kernel
theorem dX12_copies_21 : decode cX12_copies 21 = .ok (.iadd, 1) := by decide +kernel
theorem dX12_copies_22 : decode cX12_copies 22 = .ok (.iaload, 1) := by decide +kernel
theorem dX12_copies_23 : decode cX12_copies 23 = .ok (.iastore, 1) := by decide +kernel
theorem dX12_copies_24 : decode cX12_copies 24 = .ok (.iinc 3 1, 3) := by decide +kernel
theorem dX12_copies_27 : decode cX12_copies 27 = .ok (.goto (-25), 3) := by decide +kernel
theorem dX12_copies_30 : decode cX12_copies 30 = .ok (.return_, 1) := by decide +kernel
theorem dX12_known_0 : decode cX12_known 0 = .ok (.aload_n 0, 1) := by decide +kernel
theorem dX12_known_1 : decode cX12_known 1 = .ok (.getfield 131, 3) := by decide +kernel
theorem dX12_known_4 : decode cX12_known 4 = .ok (.bipush 24, 2) := by decide +kernel
theorem dX12_known_6 : decode cX12_known 6 = .ok (.if_icmp .ne 40, 3) := by decide +kernel
theorem dX12_known_9 : decode cX12_known 9 = .ok (.bipush 27, 2) := by decide +kernel
theorem dX12_known_11 : decode cX12_known 11 = .ok (.istore_n 1, 1) := by decide +kernel
theorem dX12_known_12 : decode cX12_known 12 = .ok (.iload_n 1, 1) := by decide +kernel
theorem dX12_known_13 : decode cX12_known 13 = .ok (.sipush 648, 3) := by decide +kernel
theorem dX12_known_16 : decode cX12_known 16 = .ok (.if_icmp .ge 24, 3) := by decide +kernel
theorem dX12_known_19 : decode cX12_known 19 = .ok (.aload_n 0, 1) := by decide +kernel
theorem dX12_known_20 : decode cX12_known 20 = .ok (.getfield 7, 3) := by decide +kernel
theorem dX12_known_23 : decode cX12_known 23 = .ok (.iload_n 1, 1) := by decide +kernel
theorem dX12_known_24 : decode cX12_known 24 = .ok (.aload_n 0, 1) := by decide +kernel
theorem dX12_known_25 : decode cX12_known 25 = .ok (.getfield 7, 3) := by decide +kernel
theorem dX12_known_28 : decode cX12_known 28 = .ok (.iload_n 1, 1) := by decide +kernel
theorem dX12_known_29 : decode cX12_known 29 = .ok (.bipush 27, 2) := by decide +kernel
theorem dX12_known_31 : decode cX12_known 31 = .ok (.iadd, 1) := by decide +kernel
theorem dX12_known_32 : decode cX12_known 32 = .ok (.iaload, 1) := by decide +kernel
theorem dX12_known_33 : decode cX12_known 33 = .ok (.iastore, 1) := by decide +kernel
theorem dX12_known_34 : decode cX12_known 34 = .ok (.iinc 1 1, 3) := by decide +kernel
theorem dX12_known_37 : decode cX12_known 37 = .ok (.goto (-25), 3) := by decide +kernel
theorem dX12_known_40 : decode cX12_known 40 = .ok (.aload_n 0, 1) := by decide +kernel
theorem dX12_known_41 : decode cX12_known 41 = .ok (.bipush 23, 2) := by decide +kernel
theorem dX12_known_43 : decode cX12_known 43 = .ok (.putfield 131, 3) := by decide +kernel
theorem dX12_known_46 : decode cX12_known 46 = .ok (.aload_n 0, 1) := by decide +kernel
theorem dX12_known_47 : decode cX12_known 47 = .ok (.dup, 1) := by decide +kernel
theorem dX12_known_48 : decode cX12_known 48 = .ok (.getfield 131, 3) := by decide +kernel
theorem dX12_known_51 : decode cX12_known 51 = .ok (.iconst 1, 1) := by decide +kernel
theorem dX12_known_52 : decode cX12_known 52 = .ok (.iadd, 1) := by decide +kernel
theorem dX12_known_53 : decode cX12_known 53 = .ok (.putfield 131, 3) := by decide +kernel
theorem dX12_known_56 : decode cX12_known 56 = .ok (.aload_n 0, 1) := by decide +kernel
theorem dX12_known_57 : decode cX12_known 57 = .ok (.iconst 0, 1) := by decide +kernel
theorem dX12_known_58 : decode cX12_known 58 = .ok (.aload_n 0, 1) := by decide +kernel
theorem dX12_known_59 : decode cX12_known 59 = .ok (.getfield 131, 3) := by decide +kernel
theorem dX12_known_62 : decode cX12_known 62 = .ok (.bipush 27, 2) := by decide +kernel
theorem dX12_known_64 : decode cX12_known 64 = .ok (.imul, 1) := by decide +kernel
theorem dX12_known_65 : decode cX12_known 65 = .ok (.invokevirtual 162, 3) := by decide +kernel
theorem dX12_known_68 : decode cX12_known 68 = .ok (.return_, 1) := by decide +kernel
theorem dX12_minutes_0 : decode cX12_minutes 0 = .ok (.aload_n 0, 1) := by decide +kernel
theorem dX12_minutes_1 : decode cX12_minutes 1 = .ok (.invokevirtual 165, 3) := by decide +kernel
theorem dX12_minutes_4 : decode cX12_minutes 4 = .ok (.ifCond .ne 6, 3) := by decide +kernel
theorem dX12_minutes_7 : decode cX12_minutes 7 = .ok (.ldc 169, 2) := by decide +kernel
theorem dX12_minutes_9 : decode cX12_minutes 9 = .ok (.ireturn, 1) := by decide +kernel
theorem dX12_minutes_10 : decode cX12_minutes 10 = .ok (.iload_n 1, 1) := by decide +kernel
theorem dX12_minutes_11 : decode cX12_minutes 11 = .ok (.i2l, 1) := by decide +kernel
theorem dX12_minutes_12 : decode cX12_minutes 12 = .ok (.lconst 1, 1) := by decide +kernel
theorem dX12_minutes_13 : decode cX12_minutes 13 = .ok (.ldc2_w 170, 3) := by decide +kernel
theorem dX12_minutes_16 : decode cX12_minutes 16 = .ok (.invokestatic 60, 3) := by decide +kernel
theorem dX12_minutes_19 : decode cX12_minutes 19 = .ok (.ifCond .ne 6, 3) := by decide +kernel
theorem dX12_minutes_22 : decode cX12_minutes 22 = .ok (.ldc 66, 2) := by decide +kernel
theorem dX12_minutes_24 : decode cX12_minutes 24 = .ok (.ireturn, 1) := by decide +kernel
theorem dX12_minutes_25 : decode cX12_minutes 25 = .ok (.aload_n 0, 1) := by decide +kernel
theorem dX12_minutes_26 : decode cX12_minutes 26 = .ok (.getfield 7, 3) := by decide +kernel
theorem dX12_minutes_29 : decode cX12_minutes 29 = .ok (.bipush 26, 2) := by decide +kernel
theorem dX12_minutes_31 : decode cX12_minutes 31 = .ok (.iaload, 1) := by decide +kernel
theorem dX12_minutes_32 : decode cX12_minutes 32 = .ok (.iload_n 1, 1) := by decide +kernel
theorem dX12_minutes_33 : decode cX12_minutes 33 = .ok (.iadd, 1) := by decide +kernel
theorem dX12_minutes_34 : decode cX12_minutes 34 = .ok (.sipush 9999, 3) := by decide +kernel
theorem dX12_minutes_37 : decode cX12_minutes 37 = .ok (.if_icmp .le 6, 3) := by decide +kernel
theorem dX12_minutes_40 : decode cX12_minutes 40 = .ok (.ldc 79, 2) := by decide +kernel
theorem dX12_minutes_42 : decode cX12_minutes 42 = .ok (.ireturn, 1) := by decide +kernel
theorem dX12_minutes_43 : decode cX12_minutes 43 = .ok (.iconst 0, 1) := by decide +kernel
theorem dX12_minutes_44 : decode cX12_minutes 44 = .ok (.istore_n 2, 1) := by decide +kernel
theorem dX12_minutes_45 : decode cX12_minutes 45 = .ok (.iload_n 2, 1) := by decide +kernel
theorem dX12_minutes_46 : decode cX12_minutes 46 = .ok (.iload_n 1, 1) := by decide +kernel
theorem dX12_minutes_47 : decode cX12_minutes 47 = .ok (.if_icmp .ge 18, 3) := by decide +kernel
theorem dX12_minutes_50 : decode cX12_minutes 50 = .ok (.aload_n 0, 1) := by decide +kernel
theorem dX12_minutes_51 : decode cX12_minutes 51 = .ok (.invokevirtual 172, 3) := by decide +kernel
theorem dX12_minutes_54 : decode cX12_minutes 54 = .ok (.aload_n 0, 1) := by decide +kernel
theorem dX12_minutes_55 : decode cX12_minutes 55 = .ok (.iconst 0, 1) := by decide +kernel
theorem dX12_minutes_56 : decode cX12_minutes 56 = .ok (.invokevirtual 175, 3) := by decide +kernel
theorem dX12_minutes_59 : decode cX12_minutes 59 = .ok (.iinc 2 1, 3) := by decide +kernel
theorem dX12_minutes_62 : decode cX12_minutes 62 = .ok (.goto (-17), 3) := by decide +kernel
theorem dX12_minutes_65 : decode cX12_minutes 65 = .ok (.aload_n 0, 1) := by decide +kernel
theorem dX12_minutes_66 : decode cX12_minutes 66 = .ok (.iconst 0, 1) := by decide +kernel
theorem dX12_minutes_67 : decode cX12_minutes 67 = .ok (.invokevirtual 144, 3) := by decide +kernel
theorem dX12_minutes_70 : decode cX12_minutes 70 = .ok (.ireturn, 1) := by decide +kernel
theorem dX12_turn_0 : decode cX12_turn 0 = .ok (.aload_n 0, 1) := by decide +kernel
theorem dX12_turn_1 : decode cX12_turn 1 = .ok (.iload_n 1, 1) := by decide +kernel
theorem dX12_turn_2 : decode cX12_turn 2 = .ok (.invokevirtual 178, 3) := by decide +kernel
theorem dX12_turn_5 : decode cX12_turn 5 = .ok (.ifCond .eq 13, 3) := by decide +kernel
theorem dX12_turn_8 : decode cX12_turn 8 = .ok (.iload_n 2, 1) := by decide +kernel
theorem dX12_turn_9 : decode cX12_turn 9 = .ok (.i2l, 1) := by decide +kernel
theorem dX12_turn_10 : decode cX12_turn 10 = .ok (.lconst 0, 1) := by decide +kernel
theorem dX12_turn_11 : decode cX12_turn 11 = .ok (.lconst 1, 1) := by decide +kernel
theorem dX12_turn_12 : decode cX12_turn 12 = .ok (.invokestatic 60, 3) := by decide +kernel
theorem dX12_turn_15 : decode cX12_turn 15 = .ok (.ifCond .ne 6, 3) := by decide +kernel
theorem dX12_turn_18 : decode cX12_turn 18 = .ok (.ldc 66, 2) := by decide +kernel
theorem dX12_turn_20 : decode cX12_turn 20 = .ok (.ireturn, 1) := by decide +kernel
theorem dX12_turn_21 : decode cX12_turn 21 = .ok (.aload_n 0, 1) := by decide +kernel
theorem dX12_turn_22 : decode cX12_turn 22 = .ok (.getfield 7, 3) := by decide +kernel
theorem dX12_turn_25 : decode cX12_turn 25 = .ok (.bipush 18, 2) := by decide +kernel
theorem dX12_turn_27 : decode cX12_turn 27 = .ok (.iload_n 1, 1) := by decide +kernel
theorem dX12_turn_28 : decode cX12_turn 28 = .ok (.iadd, 1) := by decide +kernel
theorem dX12_turn_29 : decode cX12_turn 29 = .ok (.iaload, 1) := by decide +kernel
theorem dX12_turn_30 : decode cX12_turn 30 = .ok (.iload_n 2, 1) := by decide +kernel
theorem dX12_turn_31 : decode cX12_turn 31 = .ok (.if_icmp .ne 6, 3) := by decide +kernel
theorem dX12_turn_34 : decode cX12_turn 34 = .ok (.ldc 169, 2) := by decide +kernel
theorem dX12_turn_36 : decode cX12_turn 36 = .ok (.ireturn, 1) := by decide +kernel
theorem dX12_turn_37 : decode cX12_turn 37 = .ok (.aload_n 0, 1) := by decide +kernel
theorem dX12_turn_38 : decode cX12_turn 38 = .ok (.invokevirtual 172, 3) := by decide +kernel
theorem dX12_turn_41 : decode cX12_turn 41 = .ok (.aload_n 0, 1) := by decide +kernel
theorem dX12_turn_42 : decode cX12_turn 42 = .ok (.getfield 7, 3) := by decide +kernel
theorem dX12_turn_45 : decode cX12_turn 45 = .ok (.bipush 18, 2) := by decide +kernel
theorem dX12_turn_47 : decode cX12_turn 47 = .ok (.iload_n 1, 1) := by decide +kernel
theorem dX12_turn_48 : decode cX12_turn 48 = .ok (.iadd, 1) := by decide +kernel
theorem dX12_turn_49 : decode cX12_turn 49 = .ok (.iload_n 2, 1) := by decide +kernel
theorem dX12_turn_50 : decode cX12_turn 50 = .ok (.iastore, 1) := by decide +kernel
theorem dX12_turn_51 : decode cX12_turn 51 = .ok (.aload_n 0, 1) := by decide +kernel
theorem dX12_turn_52 : decode cX12_turn 52 = .ok (.iconst 0, 1) := by decide +kernel
theorem dX12_turn_53 : decode cX12_turn 53 = .ok (.invokevirtual 182, 3) := by decide +kernel
theorem dX12_turn_56 : decode cX12_turn 56 = .ok (.ireturn, 1) := by decide +kernel
theorem dX12_plug_0 : decode cX12_plug 0 = .ok (.aload_n 0, 1) := by decide +kernel
theorem dX12_plug_1 : decode cX12_plug 1 = .ok (.iload_n 1, 1) := by decide +kernel
theorem dX12_plug_2 : decode cX12_plug 2 = .ok (.invokevirtual 178, 3) := by decide +kernel
theorem dX12_plug_5 : decode cX12_plug 5 = .ok (.ifCond .eq 11, 3) := by decide +kernel
theorem dX12_plug_8 : decode cX12_plug 8 = .ok (.aload_n 0, 1) := by decide +kernel
theorem dX12_plug_9 : decode cX12_plug 9 = .ok (.iload_n 2, 1) := by decide +kernel
theorem dX12_plug_10 : decode cX12_plug 10 = .ok (.invokevirtual 185, 3) := by decide +kernel
theorem dX12_plug_13 : decode cX12_plug 13 = .ok (.ifCond .ne 6, 3) := by decide +kernel
theorem dX12_plug_16 : decode cX12_plug 16 = .ok (.ldc 66, 2) := by decide +kernel
theorem dX12_plug_18 : decode cX12_plug 18 = .ok (.ireturn, 1) := by decide +kernel
theorem dX12_plug_19 : decode cX12_plug 19 = .ok (.aload_n 0, 1) := by decide +kernel
theorem dX12_plug_20 : decode cX12_plug 20 = .ok (.getfield 7, 3) := by decide +kernel
theorem dX12_plug_23 : decode cX12_plug 23 = .ok (.bipush 12, 2) := by decide +kernel
theorem dX12_plug_25 : decode cX12_plug 25 = .ok (.iload_n 1, 1) := by decide +kernel
theorem dX12_plug_26 : decode cX12_plug 26 = .ok (.iadd, 1) := by decide +kernel
theorem dX12_plug_27 : decode cX12_plug 27 = .ok (.iaload, 1) := by decide +kernel
theorem dX12_plug_28 : decode cX12_plug 28 = .ok (.iload_n 2, 1) := by decide +kernel
theorem dX12_plug_29 : decode cX12_plug 29 = .ok (.if_icmp .ne 6, 3) := by decide +kernel
theorem dX12_plug_32 : decode cX12_plug 32 = .ok (.ldc 169, 2) := by decide +kernel
theorem dX12_plug_34 : decode cX12_plug 34 = .ok (.ireturn, 1) := by decide +kernel
theorem dX12_plug_35 : decode cX12_plug 35 = .ok (.aload_n 0, 1) := by decide +kernel
theorem dX12_plug_36 : decode cX12_plug 36 = .ok (.invokevirtual 172, 3) := by decide +kernel
theorem dX12_plug_39 : decode cX12_plug 39 = .ok (.aload_n 0, 1) := by decide +kernel
theorem dX12_plug_40 : decode cX12_plug 40 = .ok (.getfield 7, 3) := by decide +kernel
theorem dX12_plug_43 : decode cX12_plug 43 = .ok (.bipush 12, 2) := by decide +kernel
theorem dX12_plug_45 : decode cX12_plug 45 = .ok (.iload_n 1, 1) := by decide +kernel
theorem dX12_plug_46 : decode cX12_plug 46 = .ok (.iadd, 1) := by decide +kernel
theorem dX12_plug_47 : decode cX12_plug 47 = .ok (.iaload, 1) := by decide +kernel
theorem dX12_plug_48 : decode cX12_plug 48 = .ok (.istore_n 3, 1) := by decide +kernel
theorem dX12_plug_49 : decode cX12_plug 49 = .ok (.aload_n 0, 1) := by decide +kernel
theorem dX12_plug_50 : decode cX12_plug 50 = .ok (.getfield 7, 3) := by decide +kernel
theorem dX12_plug_53 : decode cX12_plug 53 = .ok (.bipush 12, 2) := by decide +kernel
theorem dX12_plug_55 : decode cX12_plug 55 = .ok (.iload_n 1, 1) := by decide +kernel
theorem dX12_plug_56 : decode cX12_plug 56 = .ok (.iadd, 1) := by decide +kernel
theorem dX12_plug_57 : decode cX12_plug 57 = .ok (.iload_n 2, 1) := by decide +kernel
theorem dX12_plug_58 : decode cX12_plug 58 = .ok (.iastore, 1) := by decide +kernel
theorem dX12_plug_59 : decode cX12_plug 59 = .ok (.iload_n 3, 1) := by decide +kernel
theorem dX12_plug_60 : decode cX12_plug 60 = .ok (.ireturn, 1) := by decide +kernel
theorem dX12_mends_0 : decode cX12_mends 0 = .ok (.aload_n 0, 1) := by decide +kernel
theorem dX12_mends_1 : decode cX12_mends 1 = .ok (.getfield 7, 3) := by decide +kernel
theorem dX12_mends_4 : decode cX12_mends 4 = .ok (.iload_n 1, 1) := by decide +kernel
theorem dX12_mends_5 : decode cX12_mends 5 = .ok (.iconst 4, 1) := by decide +kernel
theorem dX12_mends_6 : decode cX12_mends 6 = .ok (.iadd, 1) := by decide +kernel
theorem dX12_mends_7 : decode cX12_mends 7 = .ok (.iload_n 2, 1) := by decide +kernel
theorem dX12_mends_8 : decode cX12_mends 8 = .ok (.iadd, 1) := by decide +kernel
theorem dX12_mends_9 : decode cX12_mends 9 = .ok (.iconst 0, 1) := by decide +kernel
theorem dX12_mends_10 : decode cX12_mends 10 = .ok (.iastore, 1) := by decide +kernel
theorem dX12_mends_11 : decode cX12_mends 11 = .ok (.aload_n 0, 1) := by decide +kernel
theorem dX12_mends_12 : decode cX12_mends 12 = .ok (.getfield 7, 3) := by decide +kernel
theorem dX12_mends_15 : decode cX12_mends 15 = .ok (.iload_n 1, 1) := by decide +kernel
theorem dX12_mends_16 : decode cX12_mends 16 = .ok (.iload_n 2, 1) := by decide +kernel
theorem dX12_mends_17 : decode cX12_mends 17 = .ok (.iadd, 1) := by decide +kernel
theorem dX12_mends_18 : decode cX12_mends 18 = .ok (.iconst 0, 1) := by decide +kernel
theorem dX12_mends_19 : decode cX12_mends 19 = .ok (.iastore, 1) := by decide +kernel
theorem dX12_mends_20 : decode cX12_mends 20 = .ok (.return_, 1) := by decide +kernel
theorem dX12_mend_0 : decode cX12_mend 0 = .ok (.aload_n 0, 1) := by decide +kernel
theorem dX12_mend_1 : decode cX12_mend 1 = .ok (.iload_n 1, 1) := by decide +kernel
theorem dX12_mend_2 : decode cX12_mend 2 = .ok (.invokevirtual 185, 3) := by decide +kernel
theorem dX12_mend_5 : decode cX12_mend 5 = .ok (.ifCond .ne 6, 3) := by decide +kernel
theorem dX12_mend_8 : decode cX12_mend 8 = .ok (.ldc 66, 2) := by decide +kernel
theorem dX12_mend_10 : decode cX12_mend 10 = .ok (.ireturn, 1) := by decide +kernel
theorem dX12_mend_11 : decode cX12_mend 11 = .ok (.aload_n 0, 1) := by decide +kernel
theorem dX12_mend_12 : decode cX12_mend 12 = .ok (.getfield 7, 3) := by decide +kernel
theorem dX12_mend_15 : decode cX12_mend 15 = .ok (.iconst 4, 1) := by decide +kernel
theorem dX12_mend_16 : decode cX12_mend 16 = .ok (.iload_n 1, 1) := by decide +kernel
theorem dX12_mend_17 : decode cX12_mend 17 = .ok (.iadd, 1) := by decide +kernel
theorem dX12_mend_18 : decode cX12_mend 18 = .ok (.iaload, 1) := by decide +kernel
theorem dX12_mend_19 : decode cX12_mend 19 = .ok (.ifCond .ne 6, 3) := by decide +kernel
theorem dX12_mend_22 : decode cX12_mend 22 = .ok (.ldc 169, 2) := by decide +kernel
theorem dX12_mend_24 : decode cX12_mend 24 = .ok (.ireturn, 1) := by decide +kernel
theorem dX12_mend_25 : decode cX12_mend 25 = .ok (.aload_n 0, 1) := by decide +kernel
theorem dX12_mend_26 : decode cX12_mend 26 = .ok (.invokevirtual 172, 3) := by decide +kernel
theorem dX12_mend_29 : decode cX12_mend 29 = .ok (.aload_n 0, 1) := by decide +kernel
theorem dX12_mend_30 : decode cX12_mend 30 = .ok (.iconst 0, 1) := by decide +kernel
theorem dX12_mend_31 : decode cX12_mend 31 = .ok (.iload_n 1, 1) := by decide +kernel
theorem dX12_mend_32 : decode cX12_mend 32 = .ok (.invokevirtual 188, 3) := by decide +kernel
theorem dX12_mend_35 : decode cX12_mend 35 = .ok (.aload_n 0, 1) := by decide +kernel
theorem dX12_mend_36 : decode cX12_mend 36 = .ok (.invokevirtual 191, 3) := by decide +kernel
theorem dX12_mend_39 : decode cX12_mend 39 = .ok (.ireturn, 1) := by decide +kernel
theorem dX12_mains_0 : decode cX12_mains 0 = .ok (.aload_n 0, 1) := by decide +kernel
theorem dX12_mains_1 : decode cX12_mains 1 = .ok (.invokevirtual 165, 3) := by decide +kernel
theorem dX12_mains_4 : decode cX12_mains 4 = .ok (.ifCond .eq 13, 3) := by decide +kernel
theorem dX12_mains_7 : decode cX12_mains 7 = .ok (.aload_n 0, 1) := by decide +kernel
theorem dX12_mains_8 : decode cX12_mains 8 = .ok (.getfield 7, 3) := by decide +kernel
theorem dX12_mains_11 : decode cX12_mains 11 = .ok (.bipush 24, 2) := by decide +kernel
theorem dX12_mains_13 : decode cX12_mains 13 = .ok (.iaload, 1) := by decide +kernel
theorem dX12_mains_14 : decode cX12_mains 14 = .ok (.ifCond .ne 6, 3) := by decide +kernel
theorem dX12_mains_17 : decode cX12_mains 17 = .ok (.ldc 169, 2) := by decide +kernel
theorem dX12_mains_19 : decode cX12_mains 19 = .ok (.ireturn, 1) := by decide +kernel
theorem dX12_mains_20 : decode cX12_mains 20 = .ok (.aload_n 0, 1) := by decide +kernel
theorem dX12_mains_21 : decode cX12_mains 21 = .ok (.invokevirtual 172, 3) := by decide +kernel
theorem dX12_mains_24 : decode cX12_mains 24 = .ok (.aload_n 0, 1) := by decide +kernel
theorem dX12_mains_25 : decode cX12_mains 25 = .ok (.getfield 7, 3) := by decide +kernel
theorem dX12_mains_28 : decode cX12_mains 28 = .ok (.bipush 24, 2) := by decide +kernel
theorem dX12_mains_30 : decode cX12_mains 30 = .ok (.iconst 0, 1) := by decide +kernel
theorem dX12_mains_31 : decode cX12_mains 31 = .ok (.iastore, 1) := by decide +kernel
theorem dX12_mains_32 : decode cX12_mains 32 = .ok (.aload_n 0, 1) := by decide +kernel
theorem dX12_mains_33 : decode cX12_mains 33 = .ok (.iconst 0, 1) := by decide +kernel
theorem dX12_mains_34 : decode cX12_mains 34 = .ok (.invokevirtual 144, 3) := by decide +kernel
theorem dX12_mains_37 : decode cX12_mains 37 = .ok (.ireturn, 1) := by decide +kernel
theorem dX12_rate_0 : decode cX12_rate 0 = .ok (.aload_n 0, 1) := by decide +kernel
theorem dX12_rate_1 : decode cX12_rate 1 = .ok (.iload_n 1, 1) := by decide +kernel
theorem dX12_rate_2 : decode cX12_rate 2 = .ok (.invokevirtual 185, 3) := by decide +kernel
theorem dX12_rate_5 : decode cX12_rate 5 = .ok (.ifCond .eq 15, 3) := by decide +kernel
theorem dX12_rate_8 : decode cX12_rate 8 = .ok (.iload_n 2, 1) := by decide +kernel
theorem dX12_rate_9 : decode cX12_rate 9 = .ok (.i2l, 1) := by decide +kernel
theorem dX12_rate_10 : decode cX12_rate 10 = .ok (.lconst 1, 1) := by decide +kernel
theorem dX12_rate_11 : decode cX12_rate 11 = .ok (.ldc2_w 194, 3) := by decide +kernel
theorem dX12_rate_14 : decode cX12_rate 14 = .ok (.invokestatic 60, 3) := by decide +kernel
theorem dX12_rate_17 : decode cX12_rate 17 = .ok (.ifCond .ne 6, 3) := by decide +kernel
theorem dX12_rate_20 : decode cX12_rate 20 = .ok (.ldc 66, 2) := by decide +kernel
theorem dX12_rate_22 : decode cX12_rate 22 = .ok (.ireturn, 1) := by decide +kernel
theorem dX12_rate_23 : decode cX12_rate 23 = .ok (.aload_n 0, 1) := by decide +kernel
theorem dX12_rate_24 : decode cX12_rate 24 = .ok (.invokevirtual 172, 3) := by decide +kernel
theorem dX12_rate_27 : decode cX12_rate 27 = .ok (.aload_n 0, 1) := by decide +kernel
theorem dX12_rate_28 : decode cX12_rate 28 = .ok (.getfield 7, 3) := by decide +kernel
theorem dX12_rate_31 : decode cX12_rate 31 = .ok (.bipush 8, 2) := by decide +kernel
theorem dX12_rate_33 : decode cX12_rate 33 = .ok (.iload_n 1, 1) := by decide +kernel
theorem dX12_rate_34 : decode cX12_rate 34 = .ok (.iadd, 1) := by decide +kernel
theorem dX12_rate_35 : decode cX12_rate 35 = .ok (.iaload, 1) := by decide +kernel
theorem dX12_rate_36 : decode cX12_rate 36 = .ok (.istore_n 3, 1) := by decide +kernel
theorem dX12_rate_37 : decode cX12_rate 37 = .ok (.aload_n 0, 1) := by decide +kernel
theorem dX12_rate_38 : decode cX12_rate 38 = .ok (.getfield 7, 3) := by decide +kernel
theorem dX12_rate_41 : decode cX12_rate 41 = .ok (.bipush 8, 2) := by decide +kernel
theorem dX12_rate_43 : decode cX12_rate 43 = .ok (.iload_n 1, 1) := by decide +kernel
theorem dX12_rate_44 : decode cX12_rate 44 = .ok (.iadd, 1) := by decide +kernel
theorem dX12_rate_45 : decode cX12_rate 45 = .ok (.iload_n 2, 1) := by decide +kernel
theorem dX12_rate_46 : decode cX12_rate 46 = .ok (.iastore, 1) := by decide +kernel
theorem dX12_rate_47 : decode cX12_rate 47 = .ok (.iload_n 3, 1) := by decide +kernel
theorem dX12_rate_48 : decode cX12_rate 48 = .ok (.ireturn, 1) := by decide +kernel
theorem dX12_undo_0 : decode cX12_undo 0 = .ok (.aload_n 0, 1) := by decide +kernel
theorem dX12_undo_1 : decode cX12_undo 1 = .ok (.getfield 131, 3) := by decide +kernel
theorem dX12_undo_4 : decode cX12_undo 4 = .ok (.ifCond .ne 6, 3) := by decide +kernel
theorem dX12_undo_7 : decode cX12_undo 7 = .ok (.ldc 169, 2) := by decide +kernel
theorem dX12_undo_9 : decode cX12_undo 9 = .ok (.ireturn, 1) := by decide +kernel
theorem dX12_undo_10 : decode cX12_undo 10 = .ok (.aload_n 0, 1) := by decide +kernel
theorem dX12_undo_11 : decode cX12_undo 11 = .ok (.aload_n 0, 1) := by decide +kernel
theorem dX12_undo_12 : decode cX12_undo 12 = .ok (.getfield 131, 3) := by decide +kernel
theorem dX12_undo_15 : decode cX12_undo 15 = .ok (.bipush 27, 2) := by decide +kernel
theorem dX12_undo_17 : decode cX12_undo 17 = .ok (.imul, 1) := by decide +kernel
theorem dX12_undo_18 : decode cX12_undo 18 = .ok (.iconst 0, 1) := by decide +kernel
theorem dX12_undo_19 : decode cX12_undo 19 = .ok (.invokevirtual 162, 3) := by decide +kernel
theorem dX12_undo_22 : decode cX12_undo 22 = .ok (.aload_n 0, 1) := by decide +kernel
theorem dX12_undo_23 : decode cX12_undo 23 = .ok (.dup, 1) := by decide +kernel
theorem dX12_undo_24 : decode cX12_undo 24 = .ok (.getfield 131, 3) := by decide +kernel
theorem dX12_undo_27 : decode cX12_undo 27 = .ok (.iconst 1, 1) := by decide +kernel
theorem dX12_undo_28 : decode cX12_undo 28 = .ok (.isub, 1) := by decide +kernel
theorem dX12_undo_29 : decode cX12_undo 29 = .ok (.putfield 131, 3) := by decide +kernel
theorem dX12_undo_32 : decode cX12_undo 32 = .ok (.aload_n 0, 1) := by decide +kernel
theorem dX12_undo_33 : decode cX12_undo 33 = .ok (.getfield 131, 3) := by decide +kernel
theorem dX12_undo_36 : decode cX12_undo 36 = .ok (.ireturn, 1) := by decide +kernel
theorem dX12_line_0 : decode cX12_line 0 = .ok (.aload_n 0, 1) := by decide +kernel
theorem dX12_line_1 : decode cX12_line 1 = .ok (.iload_n 1, 1) := by decide +kernel
theorem dX12_line_2 : decode cX12_line 2 = .ok (.invokevirtual 185, 3) := by decide +kernel
theorem dX12_line_5 : decode cX12_line 5 = .ok (.ifCond .eq 15, 3) := by decide +kernel
theorem dX12_line_8 : decode cX12_line 8 = .ok (.iload_n 2, 1) := by decide +kernel
theorem dX12_line_9 : decode cX12_line 9 = .ok (.i2l, 1) := by decide +kernel
theorem dX12_line_10 : decode cX12_line 10 = .ok (.lconst 0, 1) := by decide +kernel
theorem dX12_line_11 : decode cX12_line 11 = .ok (.ldc2_w 196, 3) := by decide +kernel
theorem dX12_line_14 : decode cX12_line 14 = .ok (.invokestatic 60, 3) := by decide +kernel
theorem dX12_line_17 : decode cX12_line 17 = .ok (.ifCond .ne 6, 3) := by decide +kernel
theorem dX12_line_20 : decode cX12_line 20 = .ok (.ldc 66, 2) := by decide +kernel
theorem dX12_line_22 : decode cX12_line 22 = .ok (.ireturn, 1) := by decide +kernel
theorem dX12_line_23 : decode cX12_line 23 = .ok (.iload_n 2, 1) := by decide +kernel
theorem dX12_line_24 : decode cX12_line 24 = .ok (.iconst 5, 1) := by decide +kernel
theorem dX12_line_25 : decode cX12_line 25 = .ok (.if_icmp .ne 52, 3) := by decide +kernel
theorem dX12_line_28 : decode cX12_line 28 = .ok (.iconst 0, 1) := by decide +kernel
theorem dX12_line_29 : decode cX12_line 29 = .ok (.istore_n 3, 1) := by decide +kernel
theorem dX12_line_30 : decode cX12_line 30 = .ok (.iconst 0, 1) := by decide +kernel
theorem dX12_line_31 : decode cX12_line 31 = .ok (.istore 4, 2) := by decide +kernel
theorem dX12_line_33 : decode cX12_line 33 = .ok (.iload 4, 2) := by decide +kernel
theorem dX12_line_35 : decode cX12_line 35 = .ok (.aload_n 0, 1) := by decide +kernel
theorem dX12_line_36 : decode cX12_line 36 = .ok (.getfield 13, 3) := by decide +kernel
theorem dX12_line_39 : decode cX12_line 39 = .ok (.iconst 1, 1) := by decide +kernel
theorem dX12_line_40 : decode cX12_line 40 = .ok (.iaload, 1) := by decide +kernel
theorem dX12_line_41 : decode cX12_line 41 = .ok (.if_icmp .ge 34, 3) := by decide +kernel
theorem dX12_line_44 : decode cX12_line 44 = .ok (.iload_n 3, 1) := by decide +kernel
theorem dX12_line_45 : decode cX12_line 45 = .ok (.aload_n 0, 1) := by decide +kernel
theorem dX12_line_46 : decode cX12_line 46 = .ok (.getfield 7, 3) := by decide +kernel
theorem dX12_line_49 : decode cX12_line 49 = .ok (.bipush 12, 2) := by decide +kernel
theorem dX12_line_51 : decode cX12_line 51 = .ok (.iload 4, 2) := by decide +kernel
theorem dX12_line_53 : decode cX12_line 53 = .ok (.iadd, 1) := by decide +kernel
theorem dX12_line_54 : decode cX12_line 54 = .ok (.iaload, 1) := by decide +kernel
theorem dX12_line_55 : decode cX12_line 55 = .ok (.iload_n 1, 1) := by decide +kernel
theorem dX12_line_56 : decode cX12_line 56 = .ok (.if_icmp .ne 10, 3) := by decide +kernel
theorem dX12_line_59 : decode cX12_line 59 = .ok (.iconst 1, 1) := by decide +kernel
theorem dX12_line_60 : decode cX12_line 60 = .ok (.iload 4, 2) := by decide +kernel
theorem dX12_line_62 : decode cX12_line 62 = .ok (.ishl, 1) := by decide +kernel
theorem dX12_line_63 : decode cX12_line 63 = .ok (.goto 4, 3) := by decide +kernel
theorem dX12_line_66 : decode cX12_line 66 = .ok (.iconst 0, 1) := by decide +kernel
theorem dX12_line_67 : decode cX12_line 67 = .ok (.ior, 1) := by decide +kernel
theorem dX12_line_68 : decode cX12_line 68 = .ok (.istore_n 3, 1) := by decide +kernel
theorem dX12_line_69 : decode cX12_line 69 = .ok (.iinc 4 1, 3) := by decide +kernel
theorem dX12_line_72 : decode cX12_line 72 = .ok (.goto (-39), 3) := by decide +kernel
theorem dX12_line_75 : decode cX12_line 75 = .ok (.iload_n 3, 1) := by decide +kernel
theorem dX12_line_76 : decode cX12_line 76 = .ok (.ireturn, 1) := by decide +kernel
theorem dX12_line_77 : decode cX12_line 77 = .ok (.iload_n 2, 1) := by decide +kernel
theorem dX12_line_78 : decode cX12_line 78 = .ok (.ifCond .ne 15, 3) := by decide +kernel
theorem dX12_line_81 : decode cX12_line 81 = .ok (.aload_n 0, 1) := by decide +kernel
theorem dX12_line_82 : decode cX12_line 82 = .ok (.getfield 7, 3) := by decide +kernel
theorem dX12_line_85 : decode cX12_line 85 = .ok (.bipush 8, 2) := by decide +kernel
theorem dX12_line_87 : decode cX12_line 87 = .ok (.iload_n 1, 1) := by decide +kernel
theorem dX12_line_88 : decode cX12_line 88 = .ok (.iadd, 1) := by decide +kernel
theorem dX12_line_89 : decode cX12_line 89 = .ok (.iaload, 1) := by decide +kernel
theorem dX12_line_90 : decode cX12_line 90 = .ok (.goto 61, 3) := by decide +kernel
theorem dX12_line_93 : decode cX12_line 93 = .ok (.iload_n 2, 1) := by decide +kernel
theorem dX12_line_94 : decode cX12_line 94 = .ok (.iconst 1, 1) := by decide +kernel
theorem dX12_line_95 : decode cX12_line 95 = .ok (.if_icmp .ne 12, 3) := by decide +kernel
theorem dX12_line_98 : decode cX12_line 98 = .ok (.aload_n 0, 1) := by decide +kernel
theorem dX12_line_99 : decode cX12_line 99 = .ok (.getfield 7, 3) := by decide +kernel
theorem dX12_line_102 : decode cX12_line 102 = .ok (.iload_n 1, 1) := by decide +kernel
theorem dX12_line_103 : decode cX12_line 103 = .ok (.iaload, 1) := by decide +kernel
theorem dX12_line_104 : decode cX12_line 104 = .ok (.goto 47, 3) := by decide +kernel
theorem dX12_line_107 : decode cX12_line 107 = .ok (.iload_n 2, 1) := by decide +kernel
theorem dX12_line_108 : decode cX12_line 108 = .ok (.iconst 2, 1) := by decide +kernel
theorem dX12_line_109 : decode cX12_line 109 = .ok (.if_icmp .ne 14, 3) := by decide +kernel
theorem dX12_line_112 : decode cX12_line 112 = .ok (.aload_n 0, 1) := by decide +kernel
theorem dX12_line_113 : decode cX12_line 113 = .ok (.getfield 7, 3) := by decide +kernel
theorem dX12_line_116 : decode cX12_line 116 = .ok (.iconst 4, 1) := by decide +kernel
theorem dX12_line_117 : decode cX12_line 117 = .ok (.iload_n 1, 1) := by decide +kernel
theorem dX12_line_118 : decode cX12_line 118 = .ok (.iadd, 1) := by decide +kernel
theorem dX12_line_119 : decode cX12_line 119 = .ok (.iaload, 1) := by decide +kernel
theorem dX12_line_120 : decode cX12_line 120 = .ok (.goto 31, 3) := by decide +kernel
theorem dX12_line_123 : decode cX12_line 123 = .ok (.iload_n 2, 1) := by decide +kernel
theorem dX12_line_124 : decode cX12_line 124 = .ok (.iconst 3, 1) := by decide +kernel
theorem dX12_line_125 : decode cX12_line 125 = .ok (.if_icmp .ne 20, 3) := by decide +kernel
theorem dX12_line_128 : decode cX12_line 128 = .ok (.aload_n 0, 1) := by decide +kernel
theorem dX12_line_129 : decode cX12_line 129 = .ok (.iconst 0, 1) := by decide +kernel
theorem dX12_line_130 : decode cX12_line 130 = .ok (.iload_n 1, 1) := by decide +kernel
theorem dX12_line_131 : decode cX12_line 131 = .ok (.invokevirtual 134, 3) := by decide +kernel
theorem dX12_line_134 : decode cX12_line 134 = .ok (.ifCond .eq 7, 3) := by decide +kernel
theorem dX12_line_137 : decode cX12_line 137 = .ok (.iconst 1, 1) := by decide +kernel
theorem dX12_line_138 : decode cX12_line 138 = .ok (.goto 13, 3) := by decide +kernel
theorem dX12_line_141 : decode cX12_line 141 = .ok (.iconst 0, 1) := by decide +kernel
theorem dX12_line_142 : decode cX12_line 142 = .ok (.goto 9, 3) := by decide +kernel
theorem dX12_line_145 : decode cX12_line 145 = .ok (.aload_n 0, 1) := by decide +kernel
theorem dX12_line_146 : decode cX12_line 146 = .ok (.iconst 0, 1) := by decide +kernel
theorem dX12_line_147 : decode cX12_line 147 = .ok (.iload_n 1, 1) := by decide +kernel
theorem dX12_line_148 : decode cX12_line 148 = .ok (.invokevirtual 147, 3) := by decide +kernel
theorem dX12_line_151 : decode cX12_line 151 = .ok (.ireturn, 1) := by decide +kernel
theorem dX12_thing_0 : decode cX12_thing 0 = .ok (.aload_n 0, 1) := by decide +kernel
theorem dX12_thing_1 : decode cX12_thing 1 = .ok (.iload_n 1, 1) := by decide +kernel
theorem dX12_thing_2 : decode cX12_thing 2 = .ok (.invokevirtual 178, 3) := by decide +kernel
theorem dX12_thing_5 : decode cX12_thing 5 = .ok (.ifCond .eq 15, 3) := by decide +kernel
theorem dX12_thing_8 : decode cX12_thing 8 = .ok (.iload_n 2, 1) := by decide +kernel
theorem dX12_thing_9 : decode cX12_thing 9 = .ok (.i2l, 1) := by decide +kernel
theorem dX12_thing_10 : decode cX12_thing 10 = .ok (.lconst 0, 1) := by decide +kernel
theorem dX12_thing_11 : decode cX12_thing 11 = .ok (.ldc2_w 198, 3) := by decide +kernel
theorem dX12_thing_14 : decode cX12_thing 14 = .ok (.invokestatic 60, 3) := by decide +kernel
theorem dX12_thing_17 : decode cX12_thing 17 = .ok (.ifCond .ne 6, 3) := by decide +kernel
theorem dX12_thing_20 : decode cX12_thing 20 = .ok (.ldc 66, 2) := by decide +kernel
theorem dX12_thing_22 : decode cX12_thing 22 = .ok (.ireturn, 1) := by decide +kernel
theorem dX12_thing_23 : decode cX12_thing 23 = .ok (.iload_n 2, 1) := by decide +kernel
theorem dX12_thing_24 : decode cX12_thing 24 = .ok (.ifCond .ne 15, 3) := by decide +kernel
theorem dX12_thing_27 : decode cX12_thing 27 = .ok (.aload_n 0, 1) := by decide +kernel
theorem dX12_thing_28 : decode cX12_thing 28 = .ok (.getfield 7, 3) := by decide +kernel
theorem dX12_thing_31 : decode cX12_thing 31 = .ok (.bipush 12, 2) := by decide +kernel
theorem dX12_thing_33 : decode cX12_thing 33 = .ok (.iload_n 1, 1) := by decide +kernel
theorem dX12_thing_34 : decode cX12_thing 34 = .ok (.iadd, 1) := by decide +kernel
theorem dX12_thing_35 : decode cX12_thing 35 = .ok (.iaload, 1) := by decide +kernel
theorem dX12_thing_36 : decode cX12_thing 36 = .ok (.goto 51, 3) := by decide +kernel
theorem dX12_thing_39 : decode cX12_thing 39 = .ok (.iload_n 2, 1) := by decide +kernel
theorem dX12_thing_40 : decode cX12_thing 40 = .ok (.iconst 1, 1) := by decide +kernel
theorem dX12_thing_41 : decode cX12_thing 41 = .ok (.if_icmp .ne 15, 3) := by decide +kernel
theorem dX12_thing_44 : decode cX12_thing 44 = .ok (.aload_n 0, 1) := by decide +kernel
theorem dX12_thing_45 : decode cX12_thing 45 = .ok (.getfield 13, 3) := by decide +kernel
theorem dX12_thing_48 : decode cX12_thing 48 = .ok (.bipush 7, 2) := by decide +kernel
theorem dX12_thing_50 : decode cX12_thing 50 = .ok (.iload_n 1, 1) := by decide +kernel
theorem dX12_thing_51 : decode cX12_thing 51 = .ok (.iadd, 1) := by decide +kernel
theorem dX12_thing_52 : decode cX12_thing 52 = .ok (.iaload, 1) := by decide +kernel
theorem dX12_thing_53 : decode cX12_thing 53 = .ok (.goto 34, 3) := by decide +kernel
theorem dX12_thing_56 : decode cX12_thing 56 = .ok (.iload_n 2, 1) := by decide +kernel
theorem dX12_thing_57 : decode cX12_thing 57 = .ok (.iconst 2, 1) := by decide +kernel
theorem dX12_thing_58 : decode cX12_thing 58 = .ok (.if_icmp .ne 15, 3) := by decide +kernel
theorem dX12_thing_61 : decode cX12_thing 61 = .ok (.aload_n 0, 1) := by decide +kernel
theorem dX12_thing_62 : decode cX12_thing 62 = .ok (.getfield 7, 3) := by decide +kernel
theorem dX12_thing_65 : decode cX12_thing 65 = .ok (.bipush 18, 2) := by decide +kernel
theorem dX12_thing_67 : decode cX12_thing 67 = .ok (.iload_n 1, 1) := by decide +kernel
theorem dX12_thing_68 : decode cX12_thing 68 = .ok (.iadd, 1) := by decide +kernel
theorem dX12_thing_69 : decode cX12_thing 69 = .ok (.iaload, 1) := by decide +kernel
theorem dX12_thing_70 : decode cX12_thing 70 = .ok (.goto 17, 3) := by decide +kernel
theorem dX12_thing_73 : decode cX12_thing 73 = .ok (.aload_n 0, 1) := by decide +kernel
theorem dX12_thing_74 : decode cX12_thing 74 = .ok (.iconst 0, 1) := by decide +kernel
theorem dX12_thing_75 : decode cX12_thing 75 = .ok (.iload_n 1, 1) := by decide +kernel
theorem dX12_thing_76 : decode cX12_thing 76 = .ok (.invokevirtual 138, 3) := by decide +kernel
theorem dX12_thing_79 : decode cX12_thing 79 = .ok (.ifCond .eq 7, 3) := by decide +kernel
theorem dX12_thing_82 : decode cX12_thing 82 = .ok (.iconst 1, 1) := by decide +kernel
theorem dX12_thing_83 : decode cX12_thing 83 = .ok (.goto 4, 3) := by decide +kernel
theorem dX12_thing_86 : decode cX12_thing 86 = .ok (.iconst 0, 1) := by decide +kernel
theorem dX12_thing_87 : decode cX12_thing 87 = .ok (.ireturn, 1) := by decide +kernel
theorem dX12_goesOn_0 : decode cX12_goesOn 0 = .ok (.iconst 0, 1) := by decide +kernel
theorem dX12_goesOn_1 : decode cX12_goesOn 1 = .ok (.istore_n 2, 1) := by decide +kernel
theorem dX12_goesOn_2 : decode cX12_goesOn 2 = .ok (.iload_n 2, 1) := by decide +kernel
theorem dX12_goesOn_3 : decode cX12_goesOn 3 = .ok (.iload_n 1, 1) := by decide +kernel
theorem dX12_goesOn_4 : decode cX12_goesOn 4 = .ok (.if_icmp .ge 16, 3) := by decide +kernel
theorem dX12_goesOn_7 : decode cX12_goesOn 7 = .ok (.aload_n 0, 1) := by decide +kernel
theorem dX12_goesOn_8 : decode cX12_goesOn 8 = .ok (.sipush 729, 3) := by decide +kernel
theorem dX12_goesOn_11 : decode cX12_goesOn 11 = .ok (.invokevirtual 175, 3) := by decide +kernel
theorem dX12_goesOn_14 : decode cX12_goesOn 14 = .ok (.iinc 2 1, 3) := by decide +kernel
theorem dX12_goesOn_17 : decode cX12_goesOn 17 = .ok (.goto (-15), 3) := by decide +kernel
theorem dX12_goesOn_20 : decode cX12_goesOn 20 = .ok (.return_, 1) := by decide +kernel
theorem dX12_heat_0 : decode cX12_heat 0 = .ok (.aload_n 0, 1) := by decide +kernel
theorem dX12_heat_1 : decode cX12_heat 1 = .ok (.iload_n 1, 1) := by decide +kernel
theorem dX12_heat_2 : decode cX12_heat 2 = .ok (.invokevirtual 185, 3) := by decide +kernel
theorem dX12_heat_5 : decode cX12_heat 5 = .ok (.ifCond .eq 15, 3) := by decide +kernel
theorem dX12_heat_8 : decode cX12_heat 8 = .ok (.iload_n 2, 1) := by decide +kernel
theorem dX12_heat_9 : decode cX12_heat 9 = .ok (.i2l, 1) := by decide +kernel
theorem dX12_heat_10 : decode cX12_heat 10 = .ok (.lconst 0, 1) := by decide +kernel
theorem dX12_heat_11 : decode cX12_heat 11 = .ok (.ldc2_w 200, 3) := by decide +kernel
theorem dX12_heat_14 : decode cX12_heat 14 = .ok (.invokestatic 60, 3) := by decide +kernel
