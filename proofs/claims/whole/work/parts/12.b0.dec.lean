theorem dX3_clear_0 : decode cX3_clear 0 = .ok (.aload_n 0, 1) := by decide +kernel
theorem dX3_clear_1 : decode cX3_clear 1 = .ok (.iconst 0, 1) := by decide +kernel
theorem dX3_clear_2 : decode cX3_clear 2 = .ok (.putfield 37, 3) := by decide +kernel
theorem dX3_clear_5 : decode cX3_clear 5 = .ok (.aload_n 0, 1) := by decide +kernel
theorem dX3_clear_6 : decode cX3_clear 6 = .ok (.iconst 0, 1) := by decide +kernel
theorem dX3_clear_7 : decode cX3_clear 7 = .ok (.putfield 41, 3) := by decide +kernel
theorem dX3_clear_10 : decode cX3_clear 10 = .ok (.aload_n 0, 1) := by decide +kernel
theorem dX3_clear_11 : decode cX3_clear 11 = .ok (.iconst 0, 1) := by decide +kernel
theorem dX3_clear_12 : decode cX3_clear 12 = .ok (.putfield 44, 3) := by decide +kernel
theorem dX3_clear_15 : decode cX3_clear 15 = .ok (.aload_n 0, 1) := by decide +kernel
theorem dX3_clear_16 : decode cX3_clear 16 = .ok (.iconst 0, 1) := by decide +kernel
theorem dX3_clear_17 : decode cX3_clear 17 = .ok (.putfield 47, 3) := by decide +kernel
theorem dX3_clear_20 : decode cX3_clear 20 = .ok (.aload_n 0, 1) := by decide +kernel
theorem dX3_clear_21 : decode cX3_clear 21 = .ok (.iconst 0, 1) := by decide +kernel
theorem dX3_clear_22 : decode cX3_clear 22 = .ok (.putfield 50, 3) := by decide +kernel
theorem dX3_clear_25 : decode cX3_clear 25 = .ok (.aload_n 0, 1) := by decide +kernel
theorem dX3_clear_26 : decode cX3_clear 26 = .ok (.iconst 1, 1) := by decide +kernel
theorem dX3_clear_27 : decode cX3_clear 27 = .ok (.putfield 53, 3) := by decide +kernel
theorem dX3_clear_30 : decode cX3_clear 30 = .ok (.aload_n 0, 1) := by decide +kernel
theorem dX3_clear_31 : decode cX3_clear 31 = .ok (.iconst 0, 1) := by decide +kernel
theorem dX3_clear_32 : decode cX3_clear 32 = .ok (.putfield 57, 3) := by decide +kernel
theorem dX3_clear_35 : decode cX3_clear 35 = .ok (.return_, 1) := by decide +kernel
theorem dX3_addLine_0 : decode cX3_addLine 0 = .ok (.aload_n 0, 1) := by decide +kernel
theorem dX3_addLine_1 : decode cX3_addLine 1 = .ok (.getfield 37, 3) := by decide +kernel
theorem dX3_addLine_4 : decode cX3_addLine 4 = .ok (.iconst 4, 1) := by decide +kernel
theorem dX3_addLine_5 : decode cX3_addLine 5 = .ok (.if_icmp .ge 53, 3) := by decide +kernel
theorem dX3_addLine_8 : decode cX3_addLine 8 = .ok (.aload_n 0, 1) := by decide +kernel
theorem dX3_addLine_9 : decode cX3_addLine 9 = .ok (.getfield 9, 3) := by decide +kernel
theorem dX3_addLine_12 : decode cX3_addLine 12 = .ok (.aload_n 0, 1) := by decide +kernel
theorem dX3_addLine_13 : decode cX3_addLine 13 = .ok (.getfield 37, 3) := by decide +kernel
theorem dX3_addLine_16 : decode cX3_addLine 16 = .ok (.iload_n 1, 1) := by decide +kernel
theorem dX3_addLine_17 : decode cX3_addLine 17 = .ok (.iastore, 1) := by decide +kernel
theorem dX3_addLine_18 : decode cX3_addLine 18 = .ok (.aload_n 0, 1) := by decide +kernel
theorem dX3_addLine_19 : decode cX3_addLine 19 = .ok (.getfield 15, 3) := by decide +kernel
theorem dX3_addLine_22 : decode cX3_addLine 22 = .ok (.aload_n 0, 1) := by decide +kernel
theorem dX3_addLine_23 : decode cX3_addLine 23 = .ok (.getfield 37, 3) := by decide +kernel
theorem dX3_addLine_26 : decode cX3_addLine 26 = .ok (.iload_n 2, 1) := by decide +kernel
theorem dX3_addLine_27 : decode cX3_addLine 27 = .ok (.iastore, 1) := by decide +kernel
theorem dX3_addLine_28 : decode cX3_addLine 28 = .ok (.aload_n 0, 1) := by decide +kernel
theorem dX3_addLine_29 : decode cX3_addLine 29 = .ok (.getfield 18, 3) := by decide +kernel
theorem dX3_addLine_32 : decode cX3_addLine 32 = .ok (.aload_n 0, 1) := by decide +kernel
theorem dX3_addLine_33 : decode cX3_addLine 33 = .ok (.getfield 37, 3) := by decide +kernel
theorem dX3_addLine_36 : decode cX3_addLine 36 = .ok (.iconst 0, 1) := by decide +kernel
theorem dX3_addLine_37 : decode cX3_addLine 37 = .ok (.iastore, 1) := by decide +kernel
theorem dX3_addLine_38 : decode cX3_addLine 38 = .ok (.aload_n 0, 1) := by decide +kernel
theorem dX3_addLine_39 : decode cX3_addLine 39 = .ok (.getfield 21, 3) := by decide +kernel
theorem dX3_addLine_42 : decode cX3_addLine 42 = .ok (.aload_n 0, 1) := by decide +kernel
theorem dX3_addLine_43 : decode cX3_addLine 43 = .ok (.getfield 37, 3) := by decide +kernel
theorem dX3_addLine_46 : decode cX3_addLine 46 = .ok (.iconst 0, 1) := by decide +kernel
theorem dX3_addLine_47 : decode cX3_addLine 47 = .ok (.iastore, 1) := by decide +kernel
theorem dX3_addLine_48 : decode cX3_addLine 48 = .ok (.aload_n 0, 1) := by decide +kernel
theorem dX3_addLine_49 : decode cX3_addLine 49 = .ok (.dup, 1) := by decide +kernel
theorem dX3_addLine_50 : decode cX3_addLine 50 = .ok (.getfield 37, 3) := by decide +kernel
theorem dX3_addLine_53 : decode cX3_addLine 53 = .ok (.iconst 1, 1) := by decide +kernel
theorem dX3_addLine_54 : decode cX3_addLine 54 = .ok (.iadd, 1) := by decide +kernel
theorem dX3_addLine_55 : decode cX3_addLine 55 = .ok (.putfield 37, 3) := by decide +kernel
theorem dX3_addLine_58 : decode cX3_addLine 58 = .ok (.return_, 1) := by decide +kernel
theorem dX3_addThing_0 : decode cX3_addThing 0 = .ok (.aload_n 0, 1) := by decide +kernel
theorem dX3_addThing_1 : decode cX3_addThing 1 = .ok (.getfield 41, 3) := by decide +kernel
theorem dX3_addThing_4 : decode cX3_addThing 4 = .ok (.bipush 6, 2) := by decide +kernel
theorem dX3_addThing_6 : decode cX3_addThing 6 = .ok (.if_icmp .ge 48, 3) := by decide +kernel
theorem dX3_addThing_9 : decode cX3_addThing 9 = .ok (.aload_n 0, 1) := by decide +kernel
theorem dX3_addThing_10 : decode cX3_addThing 10 = .ok (.getfield 27, 3) := by decide +kernel
theorem dX3_addThing_13 : decode cX3_addThing 13 = .ok (.aload_n 0, 1) := by decide +kernel
theorem dX3_addThing_14 : decode cX3_addThing 14 = .ok (.getfield 41, 3) := by decide +kernel
theorem dX3_addThing_17 : decode cX3_addThing 17 = .ok (.iload_n 1, 1) := by decide +kernel
theorem dX3_addThing_18 : decode cX3_addThing 18 = .ok (.iastore, 1) := by decide +kernel
theorem dX3_addThing_19 : decode cX3_addThing 19 = .ok (.aload_n 0, 1) := by decide +kernel
theorem dX3_addThing_20 : decode cX3_addThing 20 = .ok (.getfield 30, 3) := by decide +kernel
theorem dX3_addThing_23 : decode cX3_addThing 23 = .ok (.aload_n 0, 1) := by decide +kernel
theorem dX3_addThing_24 : decode cX3_addThing 24 = .ok (.getfield 41, 3) := by decide +kernel
theorem dX3_addThing_27 : decode cX3_addThing 27 = .ok (.iload_n 2, 1) := by decide +kernel
theorem dX3_addThing_28 : decode cX3_addThing 28 = .ok (.iastore, 1) := by decide +kernel
theorem dX3_addThing_29 : decode cX3_addThing 29 = .ok (.aload_n 0, 1) := by decide +kernel
theorem dX3_addThing_30 : decode cX3_addThing 30 = .ok (.dup, 1) := by decide +kernel
theorem dX3_addThing_31 : decode cX3_addThing 31 = .ok (.getfield 57, 3) := by decide +kernel
theorem dX3_addThing_34 : decode cX3_addThing 34 = .ok (.iload_n 3, 1) := by decide +kernel
theorem dX3_addThing_35 : decode cX3_addThing 35 = .ok (.aload_n 0, 1) := by decide +kernel
theorem dX3_addThing_36 : decode cX3_addThing 36 = .ok (.getfield 41, 3) := by decide +kernel
theorem dX3_addThing_39 : decode cX3_addThing 39 = .ok (.ishl, 1) := by decide +kernel
theorem dX3_addThing_40 : decode cX3_addThing 40 = .ok (.ior, 1) := by decide +kernel
theorem dX3_addThing_41 : decode cX3_addThing 41 = .ok (.putfield 57, 3) := by decide +kernel
theorem dX3_addThing_44 : decode cX3_addThing 44 = .ok (.aload_n 0, 1) := by decide +kernel
theorem dX3_addThing_45 : decode cX3_addThing 45 = .ok (.dup, 1) := by decide +kernel
theorem dX3_addThing_46 : decode cX3_addThing 46 = .ok (.getfield 41, 3) := by decide +kernel
theorem dX3_addThing_49 : decode cX3_addThing 49 = .ok (.iconst 1, 1) := by decide +kernel
theorem dX3_addThing_50 : decode cX3_addThing 50 = .ok (.iadd, 1) := by decide +kernel
theorem dX3_addThing_51 : decode cX3_addThing 51 = .ok (.putfield 41, 3) := by decide +kernel
theorem dX3_addThing_54 : decode cX3_addThing 54 = .ok (.return_, 1) := by decide +kernel
theorem dX3_become_0 : decode cX3_become 0 = .ok (.aload_n 0, 1) := by decide +kernel
theorem dX3_become_1 : decode cX3_become 1 = .ok (.aload_n 1, 1) := by decide +kernel
theorem dX3_become_2 : decode cX3_become 2 = .ok (.getfield 37, 3) := by decide +kernel
theorem dX3_become_5 : decode cX3_become 5 = .ok (.putfield 37, 3) := by decide +kernel
theorem dX3_become_8 : decode cX3_become 8 = .ok (.aload_n 0, 1) := by decide +kernel
theorem dX3_become_9 : decode cX3_become 9 = .ok (.aload_n 1, 1) := by decide +kernel
theorem dX3_become_10 : decode cX3_become 10 = .ok (.getfield 41, 3) := by decide +kernel
theorem dX3_become_13 : decode cX3_become 13 = .ok (.putfield 41, 3) := by decide +kernel
theorem dX3_become_16 : decode cX3_become 16 = .ok (.aload_n 0, 1) := by decide +kernel
theorem dX3_become_17 : decode cX3_become 17 = .ok (.aload_n 1, 1) := by decide +kernel
theorem dX3_become_18 : decode cX3_become 18 = .ok (.getfield 44, 3) := by decide +kernel
theorem dX3_become_21 : decode cX3_become 21 = .ok (.putfield 44, 3) := by decide +kernel
theorem dX3_become_24 : decode cX3_become 24 = .ok (.aload_n 0, 1) := by decide +kernel
theorem dX3_become_25 : decode cX3_become 25 = .ok (.aload_n 1, 1) := by decide +kernel
theorem dX3_become_26 : decode cX3_become 26 = .ok (.getfield 47, 3) := by decide +kernel
theorem dX3_become_29 : decode cX3_become 29 = .ok (.putfield 47, 3) := by decide +kernel
theorem dX3_become_32 : decode cX3_become 32 = .ok (.aload_n 0, 1) := by decide +kernel
theorem dX3_become_33 : decode cX3_become 33 = .ok (.aload_n 1, 1) := by decide +kernel
theorem dX3_become_34 : decode cX3_become 34 = .ok (.getfield 50, 3) := by decide +kernel
theorem dX3_become_37 : decode cX3_become 37 = .ok (.putfield 50, 3) := by decide +kernel
theorem dX3_become_40 : decode cX3_become 40 = .ok (.aload_n 0, 1) := by decide +kernel
theorem dX3_become_41 : decode cX3_become 41 = .ok (.aload_n 1, 1) := by decide +kernel
theorem dX3_become_42 : decode cX3_become 42 = .ok (.getfield 53, 3) := by decide +kernel
theorem dX3_become_45 : decode cX3_become 45 = .ok (.putfield 53, 3) := by decide +kernel
theorem dX3_become_48 : decode cX3_become 48 = .ok (.aload_n 0, 1) := by decide +kernel
theorem dX3_become_49 : decode cX3_become 49 = .ok (.aload_n 1, 1) := by decide +kernel
theorem dX3_become_50 : decode cX3_become 50 = .ok (.getfield 57, 3) := by decide +kernel
theorem dX3_become_53 : decode cX3_become 53 = .ok (.putfield 57, 3) := by decide +kernel
theorem dX3_become_56 : decode cX3_become 56 = .ok (.aload_n 1, 1) := by decide +kernel
theorem dX3_become_57 : decode cX3_become 57 = .ok (.getfield 9, 3) := by decide +kernel
theorem dX3_become_60 : decode cX3_become 60 = .ok (.iconst 0, 1) := by decide +kernel
theorem dX3_become_61 : decode cX3_become 61 = .ok (.aload_n 0, 1) := by decide +kernel
theorem dX3_become_62 : decode cX3_become 62 = .ok (.getfield 9, 3) := by decide +kernel
theorem dX3_become_65 : decode cX3_become 65 = .ok (.iconst 0, 1) := by decide +kernel
theorem dX3_become_66 : decode cX3_become 66 = .ok (.iconst 4, 1) := by decide +kernel
theorem dX3_become_67 : decode cX3_become 67 = .ok (.invokestatic 60, 3) := by decide +kernel
theorem dX3_become_70 : decode cX3_become 70 = .ok (.aload_n 1, 1) := by decide +kernel
theorem dX3_become_71 : decode cX3_become 71 = .ok (.getfield 15, 3) := by decide +kernel
theorem dX3_become_74 : decode cX3_become 74 = .ok (.iconst 0, 1) := by decide +kernel
theorem dX3_become_75 : decode cX3_become 75 = .ok (.aload_n 0, 1) := by decide +kernel
theorem dX3_become_76 : decode cX3_become 76 = .ok (.getfield 15, 3) := by decide +kernel
theorem dX3_become_79 : decode cX3_become 79 = .ok (.iconst 0, 1) := by decide +kernel
theorem dX3_become_80 : decode cX3_become 80 = .ok (.iconst 4, 1) := by decide +kernel
theorem dX3_become_81 : decode cX3_become 81 = .ok (.invokestatic 60, 3) := by decide +kernel
theorem dX3_become_84 : decode cX3_become 84 = .ok (.aload_n 1, 1) := by decide +kernel
theorem dX3_become_85 : decode cX3_become 85 = .ok (.getfield 18, 3) := by decide +kernel
theorem dX3_become_88 : decode cX3_become 88 = .ok (.iconst 0, 1) := by decide +kernel
theorem dX3_become_89 : decode cX3_become 89 = .ok (.aload_n 0, 1) := by decide +kernel
theorem dX3_become_90 : decode cX3_become 90 = .ok (.getfield 18, 3) := by decide +kernel
theorem dX3_become_93 : decode cX3_become 93 = .ok (.iconst 0, 1) := by decide +kernel
theorem dX3_become_94 : decode cX3_become 94 = .ok (.iconst 4, 1) := by decide +kernel
theorem dX3_become_95 : decode cX3_become 95 = .ok (.invokestatic 60, 3) := by decide +kernel
theorem dX3_become_98 : decode cX3_become 98 = .ok (.aload_n 1, 1) := by decide +kernel
theorem dX3_become_99 : decode cX3_become 99 = .ok (.getfield 21, 3) := by decide +kernel
theorem dX3_become_102 : decode cX3_become 102 = .ok (.iconst 0, 1) := by decide +kernel
theorem dX3_become_103 : decode cX3_become 103 = .ok (.aload_n 0, 1) := by decide +kernel
theorem dX3_become_104 : decode cX3_become 104 = .ok (.getfield 21, 3) := by decide +kernel
theorem dX3_become_107 : decode cX3_become 107 = .ok (.iconst 0, 1) := by decide +kernel
theorem dX3_become_108 : decode cX3_become 108 = .ok (.iconst 4, 1) := by decide +kernel
theorem dX3_become_109 : decode cX3_become 109 = .ok (.invokestatic 60, 3) := by decide +kernel
theorem dX3_become_112 : decode cX3_become 112 = .ok (.aload_n 1, 1) := by decide +kernel
theorem dX3_become_113 : decode cX3_become 113 = .ok (.getfield 27, 3) := by decide +kernel
theorem dX3_become_116 : decode cX3_become 116 = .ok (.iconst 0, 1) := by decide +kernel
theorem dX3_become_117 : decode cX3_become 117 = .ok (.aload_n 0, 1) := by decide +kernel
theorem dX3_become_118 : decode cX3_become 118 = .ok (.getfield 27, 3) := by decide +kernel
theorem dX3_become_121 : decode cX3_become 121 = .ok (.iconst 0, 1) := by decide +kernel
theorem dX3_become_122 : decode cX3_become 122 = .ok (.bipush 6, 2) := by decide +kernel
theorem dX3_become_124 : decode cX3_become 124 = .ok (.invokestatic 60, 3) := by decide +kernel
theorem dX3_become_127 : decode cX3_become 127 = .ok (.aload_n 1, 1) := by decide +kernel
theorem dX3_become_128 : decode cX3_become 128 = .ok (.getfield 30, 3) := by decide +kernel
theorem dX3_become_131 : decode cX3_become 131 = .ok (.iconst 0, 1) := by decide +kernel
theorem dX3_become_132 : decode cX3_become 132 = .ok (.aload_n 0, 1) := by decide +kernel
theorem dX3_become_133 : decode cX3_become 133 = .ok (.getfield 30, 3) := by decide +kernel
theorem dX3_become_136 : decode cX3_become 136 = .ok (.iconst 0, 1) := by decide +kernel
theorem dX3_become_137 : decode cX3_become 137 = .ok (.bipush 6, 2) := by decide +kernel
theorem dX3_become_139 : decode cX3_become 139 = .ok (.invokestatic 60, 3) := by decide +kernel
theorem dX3_become_142 : decode cX3_become 142 = .ok (.return_, 1) := by decide +kernel
theorem dX3_fuseOf_0 : decode cX3_fuseOf 0 = .ok (.aload_n 0, 1) := by decide +kernel
theorem dX3_fuseOf_1 : decode cX3_fuseOf 1 = .ok (.getfield 33, 3) := by decide +kernel
theorem dX3_fuseOf_4 : decode cX3_fuseOf 4 = .ok (.aload_n 0, 1) := by decide +kernel
theorem dX3_fuseOf_5 : decode cX3_fuseOf 5 = .ok (.getfield 9, 3) := by decide +kernel
theorem dX3_fuseOf_8 : decode cX3_fuseOf 8 = .ok (.iload_n 1, 1) := by decide +kernel
theorem dX3_fuseOf_9 : decode cX3_fuseOf 9 = .ok (.iaload, 1) := by decide +kernel
theorem dX3_fuseOf_10 : decode cX3_fuseOf 10 = .ok (.iconst 1, 1) := by decide +kernel
theorem dX3_fuseOf_11 : decode cX3_fuseOf 11 = .ok (.isub, 1) := by decide +kernel
theorem dX3_fuseOf_12 : decode cX3_fuseOf 12 = .ok (.aaload, 1) := by decide +kernel
theorem dX3_fuseOf_13 : decode cX3_fuseOf 13 = .ok (.areturn, 1) := by decide +kernel
theorem dX3_isDead_0 : decode cX3_isDead 0 = .ok (.aload_n 0, 1) := by decide +kernel
theorem dX3_isDead_1 : decode cX3_isDead 1 = .ok (.getfield 21, 3) := by decide +kernel
theorem dX3_isDead_4 : decode cX3_isDead 4 = .ok (.iload_n 1, 1) := by decide +kernel
theorem dX3_isDead_5 : decode cX3_isDead 5 = .ok (.iaload, 1) := by decide +kernel
theorem dX3_isDead_6 : decode cX3_isDead 6 = .ok (.ifCond .le 7, 3) := by decide +kernel
theorem dX3_isDead_9 : decode cX3_isDead 9 = .ok (.iconst 1, 1) := by decide +kernel
theorem dX3_isDead_10 : decode cX3_isDead 10 = .ok (.goto 4, 3) := by decide +kernel
theorem dX3_isDead_13 : decode cX3_isDead 13 = .ok (.iconst 0, 1) := by decide +kernel
theorem dX3_isDead_14 : decode cX3_isDead 14 = .ok (.ireturn, 1) := by decide +kernel
theorem dX3_isLive_0 : decode cX3_isLive 0 = .ok (.aload_n 0, 1) := by decide +kernel
theorem dX3_isLive_1 : decode cX3_isLive 1 = .ok (.getfield 53, 3) := by decide +kernel
theorem dX3_isLive_4 : decode cX3_isLive 4 = .ok (.ifCond .eq 16, 3) := by decide +kernel
theorem dX3_isLive_7 : decode cX3_isLive 7 = .ok (.aload_n 0, 1) := by decide +kernel
theorem dX3_isLive_8 : decode cX3_isLive 8 = .ok (.getfield 21, 3) := by decide +kernel
theorem dX3_isLive_11 : decode cX3_isLive 11 = .ok (.iload_n 1, 1) := by decide +kernel
theorem dX3_isLive_12 : decode cX3_isLive 12 = .ok (.iaload, 1) := by decide +kernel
theorem dX3_isLive_13 : decode cX3_isLive 13 = .ok (.ifCond .ne 7, 3) := by decide +kernel
theorem dX3_isLive_16 : decode cX3_isLive 16 = .ok (.iconst 1, 1) := by decide +kernel
theorem dX3_isLive_17 : decode cX3_isLive 17 = .ok (.goto 4, 3) := by decide +kernel
theorem dX3_isLive_20 : decode cX3_isLive 20 = .ok (.iconst 0, 1) := by decide +kernel
theorem dX3_isLive_21 : decode cX3_isLive 21 = .ok (.ireturn, 1) := by decide +kernel
theorem dX3_isOn_0 : decode cX3_isOn 0 = .ok (.aload_n 0, 1) := by decide +kernel
theorem dX3_isOn_1 : decode cX3_isOn 1 = .ok (.getfield 57, 3) := by decide +kernel
theorem dX3_isOn_4 : decode cX3_isOn 4 = .ok (.iload_n 1, 1) := by decide +kernel
theorem dX3_isOn_5 : decode cX3_isOn 5 = .ok (.ishr, 1) := by decide +kernel
theorem dX3_isOn_6 : decode cX3_isOn 6 = .ok (.iconst 1, 1) := by decide +kernel
theorem dX3_isOn_7 : decode cX3_isOn 7 = .ok (.iand, 1) := by decide +kernel
theorem dX3_isOn_8 : decode cX3_isOn 8 = .ok (.iconst 1, 1) := by decide +kernel
theorem dX3_isOn_9 : decode cX3_isOn 9 = .ok (.if_icmp .ne 7, 3) := by decide +kernel
theorem dX3_isOn_12 : decode cX3_isOn 12 = .ok (.iconst 1, 1) := by decide +kernel
theorem dX3_isOn_13 : decode cX3_isOn 13 = .ok (.goto 4, 3) := by decide +kernel
theorem dX3_isOn_16 : decode cX3_isOn 16 = .ok (.iconst 0, 1) := by decide +kernel
theorem dX3_isOn_17 : decode cX3_isOn 17 = .ok (.ireturn, 1) := by decide +kernel
theorem dX3_runs_0 : decode cX3_runs 0 = .ok (.aload_n 0, 1) := by decide +kernel
theorem dX3_runs_1 : decode cX3_runs 1 = .ok (.iload_n 1, 1) := by decide +kernel
theorem dX3_runs_2 : decode cX3_runs 2 = .ok (.invokevirtual 66, 3) := by decide +kernel
theorem dX3_runs_5 : decode cX3_runs 5 = .ok (.ifCond .eq 20, 3) := by decide +kernel
theorem dX3_runs_8 : decode cX3_runs 8 = .ok (.aload_n 0, 1) := by decide +kernel
theorem dX3_runs_9 : decode cX3_runs 9 = .ok (.aload_n 0, 1) := by decide +kernel
theorem dX3_runs_10 : decode cX3_runs 10 = .ok (.getfield 27, 3) := by decide +kernel
theorem dX3_runs_13 : decode cX3_runs 13 = .ok (.iload_n 1, 1) := by decide +kernel
theorem dX3_runs_14 : decode cX3_runs 14 = .ok (.iaload, 1) := by decide +kernel
theorem dX3_runs_15 : decode cX3_runs 15 = .ok (.invokevirtual 70, 3) := by decide +kernel
theorem dX3_runs_18 : decode cX3_runs 18 = .ok (.ifCond .eq 7, 3) := by decide +kernel
theorem dX3_runs_21 : decode cX3_runs 21 = .ok (.iconst 1, 1) := by decide +kernel
theorem dX3_runs_22 : decode cX3_runs 22 = .ok (.goto 4, 3) := by decide +kernel
theorem dX3_runs_25 : decode cX3_runs 25 = .ok (.iconst 0, 1) := by decide +kernel
theorem dX3_runs_26 : decode cX3_runs 26 = .ok (.ireturn, 1) := by decide +kernel
theorem dX3_toggle_0 : decode cX3_toggle 0 = .ok (.aload_n 0, 1) := by decide +kernel
theorem dX3_toggle_1 : decode cX3_toggle 1 = .ok (.dup, 1) := by decide +kernel
theorem dX3_toggle_2 : decode cX3_toggle 2 = .ok (.getfield 57, 3) := by decide +kernel
theorem dX3_toggle_5 : decode cX3_toggle 5 = .ok (.iconst 1, 1) := by decide +kernel
theorem dX3_toggle_6 : decode cX3_toggle 6 = .ok (.iload_n 1, 1) := by decide +kernel
theorem dX3_toggle_7 : decode cX3_toggle 7 = .ok (.ishl, 1) := by decide +kernel
theorem dX3_toggle_8 : decode cX3_toggle 8 = .ok (.ixor, 1) := by decide +kernel
theorem dX3_toggle_9 : decode cX3_toggle 9 = .ok (.putfield 57, 3) := by decide +kernel
theorem dX3_toggle_12 : decode cX3_toggle 12 = .ok (.return_, 1) := by decide +kernel
theorem dX3_mendLine_0 : decode cX3_mendLine 0 = .ok (.aload_n 0, 1) := by decide +kernel
theorem dX3_mendLine_1 : decode cX3_mendLine 1 = .ok (.getfield 21, 3) := by decide +kernel
theorem dX3_mendLine_4 : decode cX3_mendLine 4 = .ok (.iload_n 1, 1) := by decide +kernel
theorem dX3_mendLine_5 : decode cX3_mendLine 5 = .ok (.iconst 0, 1) := by decide +kernel
theorem dX3_mendLine_6 : decode cX3_mendLine 6 = .ok (.iastore, 1) := by decide +kernel
theorem dX3_mendLine_7 : decode cX3_mendLine 7 = .ok (.aload_n 0, 1) := by decide +kernel
theorem dX3_mendLine_8 : decode cX3_mendLine 8 = .ok (.getfield 18, 3) := by decide +kernel
theorem dX3_mendLine_11 : decode cX3_mendLine 11 = .ok (.iload_n 1, 1) := by decide +kernel
theorem dX3_mendLine_12 : decode cX3_mendLine 12 = .ok (.iconst 0, 1) := by decide +kernel
theorem dX3_mendLine_13 : decode cX3_mendLine 13 = .ok (.iastore, 1) := by decide +kernel
theorem dX3_mendLine_14 : decode cX3_mendLine 14 = .ok (.return_, 1) := by decide +kernel
theorem dX3_deadLines_0 : decode cX3_deadLines 0 = .ok (.iconst 0, 1) := by decide +kernel
theorem dX3_deadLines_1 : decode cX3_deadLines 1 = .ok (.istore_n 1, 1) := by decide +kernel
theorem dX3_deadLines_2 : decode cX3_deadLines 2 = .ok (.iconst 0, 1) := by decide +kernel
theorem dX3_deadLines_3 : decode cX3_deadLines 3 = .ok (.istore_n 2, 1) := by decide +kernel
theorem dX3_deadLines_4 : decode cX3_deadLines 4 = .ok (.iload_n 2, 1) := by decide +kernel
theorem dX3_deadLines_5 : decode cX3_deadLines 5 = .ok (.aload_n 0, 1) := by decide +kernel
theorem dX3_deadLines_6 : decode cX3_deadLines 6 = .ok (.getfield 37, 3) := by decide +kernel
theorem dX3_deadLines_9 : decode cX3_deadLines 9 = .ok (.if_icmp .ge 27, 3) := by decide +kernel
theorem dX3_deadLines_12 : decode cX3_deadLines 12 = .ok (.iload_n 1, 1) := by decide +kernel
theorem dX3_deadLines_13 : decode cX3_deadLines 13 = .ok (.aload_n 0, 1) := by decide +kernel
theorem dX3_deadLines_14 : decode cX3_deadLines 14 = .ok (.iload_n 2, 1) := by decide +kernel
theorem dX3_deadLines_15 : decode cX3_deadLines 15 = .ok (.invokevirtual 73, 3) := by decide +kernel
theorem dX3_deadLines_18 : decode cX3_deadLines 18 = .ok (.ifCond .eq 9, 3) := by decide +kernel
theorem dX3_deadLines_21 : decode cX3_deadLines 21 = .ok (.iconst 1, 1) := by decide +kernel
theorem dX3_deadLines_22 : decode cX3_deadLines 22 = .ok (.iload_n 2, 1) := by decide +kernel
theorem dX3_deadLines_23 : decode cX3_deadLines 23 = .ok (.ishl, 1) := by decide +kernel
theorem dX3_deadLines_24 : decode cX3_deadLines 24 = .ok (.goto 4, 3) := by decide +kernel
theorem dX3_deadLines_27 : decode cX3_deadLines 27 = .ok (.iconst 0, 1) := by decide +kernel
theorem dX3_deadLines_28 : decode cX3_deadLines 28 = .ok (.ior, 1) := by decide +kernel
theorem dX3_deadLines_29 : decode cX3_deadLines 29 = .ok (.istore_n 1, 1) := by decide +kernel
theorem dX3_deadLines_30 : decode cX3_deadLines 30 = .ok (.iinc 2 1, 3) := by decide +kernel
theorem dX3_deadLines_33 : decode cX3_deadLines 33 = .ok (.goto (-29), 3) := by decide +kernel
theorem dX3_deadLines_36 : decode cX3_deadLines 36 = .ok (.iload_n 1, 1) := by decide +kernel
theorem dX3_deadLines_37 : decode cX3_deadLines 37 = .ok (.ireturn, 1) := by decide +kernel
theorem dX3_liveLines_0 : decode cX3_liveLines 0 = .ok (.iconst 0, 1) := by decide +kernel
theorem dX3_liveLines_1 : decode cX3_liveLines 1 = .ok (.istore_n 1, 1) := by decide +kernel
theorem dX3_liveLines_2 : decode cX3_liveLines 2 = .ok (.iconst 0, 1) := by decide +kernel
theorem dX3_liveLines_3 : decode cX3_liveLines 3 = .ok (.istore_n 2, 1) := by decide +kernel
theorem dX3_liveLines_4 : decode cX3_liveLines 4 = .ok (.iload_n 2, 1) := by decide +kernel
theorem dX3_liveLines_5 : decode cX3_liveLines 5 = .ok (.aload_n 0, 1) := by decide +kernel
theorem dX3_liveLines_6 : decode cX3_liveLines 6 = .ok (.getfield 37, 3) := by decide +kernel
theorem dX3_liveLines_9 : decode cX3_liveLines 9 = .ok (.if_icmp .ge 27, 3) := by decide +kernel
theorem dX3_liveLines_12 : decode cX3_liveLines 12 = .ok (.iload_n 1, 1) := by decide +kernel
theorem dX3_liveLines_13 : decode cX3_liveLines 13 = .ok (.aload_n 0, 1) := by decide +kernel
theorem dX3_liveLines_14 : decode cX3_liveLines 14 = .ok (.iload_n 2, 1) := by decide +kernel
theorem dX3_liveLines_15 : decode cX3_liveLines 15 = .ok (.invokevirtual 70, 3) := by decide +kernel
theorem dX3_liveLines_18 : decode cX3_liveLines 18 = .ok (.ifCond .eq 9, 3) := by decide +kernel
theorem dX3_liveLines_21 : decode cX3_liveLines 21 = .ok (.iconst 1, 1) := by decide +kernel
theorem dX3_liveLines_22 : decode cX3_liveLines 22 = .ok (.iload_n 2, 1) := by decide +kernel
theorem dX3_liveLines_23 : decode cX3_liveLines 23 = .ok (.ishl, 1) := by decide +kernel
theorem dX3_liveLines_24 : decode cX3_liveLines 24 = .ok (.goto 4, 3) := by decide +kernel
theorem dX3_liveLines_27 : decode cX3_liveLines 27 = .ok (.iconst 0, 1) := by decide +kernel
theorem dX3_liveLines_28 : decode cX3_liveLines 28 = .ok (.ior, 1) := by decide +kernel
theorem dX3_liveLines_29 : decode cX3_liveLines 29 = .ok (.istore_n 1, 1) := by decide +kernel
theorem dX3_liveLines_30 : decode cX3_liveLines 30 = .ok (.iinc 2 1, 3) := by decide +kernel
theorem dX3_liveLines_33 : decode cX3_liveLines 33 = .ok (.goto (-29), 3) := by decide +kernel
theorem dX3_liveLines_36 : decode cX3_liveLines 36 = .ok (.iload_n 1, 1) := by decide +kernel
theorem dX3_liveLines_37 : decode cX3_liveLines 37 = .ok (.ireturn, 1) := by decide +kernel
theorem dX3_runningThings_0 : decode cX3_runningThings 0 = .ok (.iconst 0, 1) := by decide +kernel
theorem dX3_runningThings_1 : decode cX3_runningThings 1 = .ok (.istore_n 1, 1) := by decide +kernel
theorem dX3_runningThings_2 : decode cX3_runningThings 2 = .ok (.iconst 0, 1) := by decide +kernel
theorem dX3_runningThings_3 : decode cX3_runningThings 3 = .ok (.istore_n 2, 1) := by decide +kernel
theorem dX3_runningThings_4 : decode cX3_runningThings 4 = .ok (.iload_n 2, 1) := by decide +kernel
theorem dX3_runningThings_5 : decode cX3_runningThings 5 = .ok (.aload_n 0, 1) := by decide +kernel
theorem dX3_runningThings_6 : decode cX3_runningThings 6 = .ok (.getfield 41, 3) := by decide +kernel
theorem dX3_runningThings_9 : decode cX3_runningThings 9 = .ok (.if_icmp .ge 27, 3) := by decide +kernel
theorem dX3_runningThings_12 : decode cX3_runningThings 12 = .ok (.iload_n 1, 1) := by decide +kernel
theorem dX3_runningThings_13 : decode cX3_runningThings 13 = .ok (.aload_n 0, 1) := by decide +kernel
theorem dX3_runningThings_14 : decode cX3_runningThings 14 = .ok (.iload_n 2, 1) := by decide +kernel
theorem dX3_runningThings_15 : decode cX3_runningThings 15 = .ok (.invokevirtual 76, 3) := by decide +kernel
theorem dX3_runningThings_18 : decode cX3_runningThings 18 = .ok (.ifCond .eq 9, 3) := by decide +kernel
theorem dX3_runningThings_21 : decode cX3_runningThings 21 = .ok (.iconst 1, 1) := by decide +kernel
theorem dX3_runningThings_22 : decode cX3_runningThings 22 = .ok (.iload_n 2, 1) := by decide +kernel
theorem dX3_runningThings_23 : decode cX3_runningThings 23 = .ok (.ishl, 1) := by decide +kernel
theorem dX3_runningThings_24 : decode cX3_runningThings 24 = .ok (.goto 4, 3) := by decide +kernel
theorem dX3_runningThings_27 : decode cX3_runningThings 27 = .ok (.iconst 0, 1) := by decide +kernel
theorem dX3_runningThings_28 : decode cX3_runningThings 28 = .ok (.ior, 1) := by decide +kernel
theorem dX3_runningThings_29 : decode cX3_runningThings 29 = .ok (.istore_n 1, 1) := by decide +kernel
theorem dX3_runningThings_30 : decode cX3_runningThings 30 = .ok (.iinc 2 1, 3) := by decide +kernel
theorem dX3_runningThings_33 : decode cX3_runningThings 33 = .ok (.goto (-29), 3) := by decide +kernel
theorem dX3_runningThings_36 : decode cX3_runningThings 36 = .ok (.iload_n 1, 1) := by decide +kernel
theorem dX3_runningThings_37 : decode cX3_runningThings 37 = .ok (.ireturn, 1) := by decide +kernel
theorem dX3_pluggedInto_0 : decode cX3_pluggedInto 0 = .ok (.iconst 0, 1) := by decide +kernel
theorem dX3_pluggedInto_1 : decode cX3_pluggedInto 1 = .ok (.istore_n 2, 1) := by decide +kernel
theorem dX3_pluggedInto_2 : decode cX3_pluggedInto 2 = .ok (.iconst 0, 1) := by decide +kernel
theorem dX3_pluggedInto_3 : decode cX3_pluggedInto 3 = .ok (.istore_n 3, 1) := by decide +kernel
theorem dX3_pluggedInto_4 : decode cX3_pluggedInto 4 = .ok (.iload_n 3, 1) := by decide +kernel
theorem dX3_pluggedInto_5 : decode cX3_pluggedInto 5 = .ok (.aload_n 0, 1) := by decide +kernel
theorem dX3_pluggedInto_6 : decode cX3_pluggedInto 6 = .ok (.getfield 41, 3) := by decide +kernel
theorem dX3_pluggedInto_9 : decode cX3_pluggedInto 9 = .ok (.if_icmp .ge 29, 3) := by decide +kernel
theorem dX3_pluggedInto_12 : decode cX3_pluggedInto 12 = .ok (.iload_n 2, 1) := by decide +kernel
theorem dX3_pluggedInto_13 : decode cX3_pluggedInto 13 = .ok (.aload_n 0, 1) := by decide +kernel
theorem dX3_pluggedInto_14 : decode cX3_pluggedInto 14 = .ok (.getfield 27, 3) := by decide +kernel
theorem dX3_pluggedInto_17 : decode cX3_pluggedInto 17 = .ok (.iload_n 3, 1) := by decide +kernel
theorem dX3_pluggedInto_18 : decode cX3_pluggedInto 18 = .ok (.iaload, 1) := by decide +kernel
theorem dX3_pluggedInto_19 : decode cX3_pluggedInto 19 = .ok (.iload_n 1, 1) := by decide +kernel
theorem dX3_pluggedInto_20 : decode cX3_pluggedInto 20 = .ok (.if_icmp .ne 9, 3) := by decide +kernel
theorem dX3_pluggedInto_23 : decode cX3_pluggedInto 23 = .ok (.iconst 1, 1) := by decide +kernel
theorem dX3_pluggedInto_24 : decode cX3_pluggedInto 24 = .ok (.iload_n 3, 1) := by decide +kernel
theorem dX3_pluggedInto_25 : decode cX3_pluggedInto 25 = .ok (.ishl, 1) := by decide +kernel
theorem dX3_pluggedInto_26 : decode cX3_pluggedInto 26 = .ok (.goto 4, 3) := by decide +kernel
theorem dX3_pluggedInto_29 : decode cX3_pluggedInto 29 = .ok (.iconst 0, 1) := by decide +kernel
theorem dX3_pluggedInto_30 : decode cX3_pluggedInto 30 = .ok (.ior, 1) := by decide +kernel
theorem dX3_pluggedInto_31 : decode cX3_pluggedInto 31 = .ok (.istore_n 2, 1) := by decide +kernel
theorem dX3_pluggedInto_32 : decode cX3_pluggedInto 32 = .ok (.iinc 3 1, 3) := by decide +kernel
theorem dX3_pluggedInto_35 : decode cX3_pluggedInto 35 = .ok (.goto (-31), 3) := by decide +kernel
theorem dX3_pluggedInto_38 : decode cX3_pluggedInto 38 = .ok (.iload_n 2, 1) := by decide +kernel
theorem dX3_pluggedInto_39 : decode cX3_pluggedInto 39 = .ok (.ireturn, 1) := by decide +kernel
theorem dX3_loadThatIsOn_0 : decode cX3_loadThatIsOn 0 = .ok (.iconst 0, 1) := by decide +kernel
theorem dX3_loadThatIsOn_1 : decode cX3_loadThatIsOn 1 = .ok (.istore_n 1, 1) := by decide +kernel
theorem dX3_loadThatIsOn_2 : decode cX3_loadThatIsOn 2 = .ok (.iconst 0, 1) := by decide +kernel
theorem dX3_loadThatIsOn_3 : decode cX3_loadThatIsOn 3 = .ok (.istore_n 2, 1) := by decide +kernel
theorem dX3_loadThatIsOn_4 : decode cX3_loadThatIsOn 4 = .ok (.iload_n 2, 1) := by decide +kernel
theorem dX3_loadThatIsOn_5 : decode cX3_loadThatIsOn 5 = .ok (.aload_n 0, 1) := by decide +kernel
theorem dX3_loadThatIsOn_6 : decode cX3_loadThatIsOn 6 = .ok (.getfield 41, 3) := by decide +kernel
theorem dX3_loadThatIsOn_9 : decode cX3_loadThatIsOn 9 = .ok (.if_icmp .ge 30, 3) := by decide +kernel
theorem dX3_loadThatIsOn_12 : decode cX3_loadThatIsOn 12 = .ok (.iload_n 1, 1) := by decide +kernel
theorem dX3_loadThatIsOn_13 : decode cX3_loadThatIsOn 13 = .ok (.aload_n 0, 1) := by decide +kernel
theorem dX3_loadThatIsOn_14 : decode cX3_loadThatIsOn 14 = .ok (.iload_n 2, 1) := by decide +kernel
theorem dX3_loadThatIsOn_15 : decode cX3_loadThatIsOn 15 = .ok (.invokevirtual 66, 3) := by decide +kernel
theorem dX3_loadThatIsOn_18 : decode cX3_loadThatIsOn 18 = .ok (.ifCond .eq 12, 3) := by decide +kernel
theorem dX3_loadThatIsOn_21 : decode cX3_loadThatIsOn 21 = .ok (.aload_n 0, 1) := by decide +kernel
theorem dX3_loadThatIsOn_22 : decode cX3_loadThatIsOn 22 = .ok (.getfield 30, 3) := by decide +kernel
theorem dX3_loadThatIsOn_25 : decode cX3_loadThatIsOn 25 = .ok (.iload_n 2, 1) := by decide +kernel
theorem dX3_loadThatIsOn_26 : decode cX3_loadThatIsOn 26 = .ok (.iaload, 1) := by decide +kernel
theorem dX3_loadThatIsOn_27 : decode cX3_loadThatIsOn 27 = .ok (.goto 4, 3) := by decide +kernel
theorem dX3_loadThatIsOn_30 : decode cX3_loadThatIsOn 30 = .ok (.iconst 0, 1) := by decide +kernel
theorem dX3_loadThatIsOn_31 : decode cX3_loadThatIsOn 31 = .ok (.iadd, 1) := by decide +kernel
theorem dX3_loadThatIsOn_32 : decode cX3_loadThatIsOn 32 = .ok (.istore_n 1, 1) := by decide +kernel
theorem dX3_loadThatIsOn_33 : decode cX3_loadThatIsOn 33 = .ok (.iinc 2 1, 3) := by decide +kernel
theorem dX3_loadThatIsOn_36 : decode cX3_loadThatIsOn 36 = .ok (.goto (-32), 3) := by decide +kernel
theorem dX3_loadThatIsOn_39 : decode cX3_loadThatIsOn 39 = .ok (.iload_n 1, 1) := by decide +kernel
theorem dX3_loadThatIsOn_40 : decode cX3_loadThatIsOn 40 = .ok (.ireturn, 1) := by decide +kernel
theorem dX3_reckonFlows_0 : decode cX3_reckonFlows 0 = .ok (.iconst 0, 1) := by decide +kernel
theorem dX3_reckonFlows_1 : decode cX3_reckonFlows 1 = .ok (.istore_n 1, 1) := by decide +kernel
theorem dX3_reckonFlows_2 : decode cX3_reckonFlows 2 = .ok (.iconst 0, 1) := by decide +kernel
theorem dX3_reckonFlows_3 : decode cX3_reckonFlows 3 = .ok (.istore_n 2, 1) := by decide +kernel
theorem dX3_reckonFlows_4 : decode cX3_reckonFlows 4 = .ok (.iload_n 2, 1) := by decide +kernel
theorem dX3_reckonFlows_5 : decode cX3_reckonFlows 5 = .ok (.aload_n 0, 1) := by decide +kernel
theorem dX3_reckonFlows_6 : decode cX3_reckonFlows 6 = .ok (.getfield 37, 3) := by decide +kernel
theorem dX3_reckonFlows_9 : decode cX3_reckonFlows 9 = .ok (.if_icmp .ge 16, 3) := by decide +kernel
theorem dX3_reckonFlows_12 : decode cX3_reckonFlows 12 = .ok (.aload_n 0, 1) := by decide +kernel
theorem dX3_reckonFlows_13 : decode cX3_reckonFlows 13 = .ok (.getfield 24, 3) := by decide +kernel
theorem dX3_reckonFlows_16 : decode cX3_reckonFlows 16 = .ok (.iload_n 2, 1) := by decide +kernel
theorem dX3_reckonFlows_17 : decode cX3_reckonFlows 17 = .ok (.iconst 0, 1) := by decide +kernel
theorem dX3_reckonFlows_18 : decode cX3_reckonFlows 18 = .ok (.iastore, 1) := by decide +kernel
theorem dX3_reckonFlows_19 : decode cX3_reckonFlows 19 = .ok (.iinc 2 1, 3) := by decide +kernel
theorem dX3_reckonFlows_22 : decode cX3_reckonFlows 22 = .ok (.goto (-18), 3) := by decide +kernel
theorem dX3_reckonFlows_25 : decode cX3_reckonFlows 25 = .ok (.iconst 0, 1) := by decide +kernel
theorem dX3_reckonFlows_26 : decode cX3_reckonFlows 26 = .ok (.istore_n 2, 1) := by decide +kernel
theorem dX3_reckonFlows_27 : decode cX3_reckonFlows 27 = .ok (.iload_n 2, 1) := by decide +kernel
theorem dX3_reckonFlows_28 : decode cX3_reckonFlows 28 = .ok (.aload_n 0, 1) := by decide +kernel
theorem dX3_reckonFlows_29 : decode cX3_reckonFlows 29 = .ok (.getfield 41, 3) := by decide +kernel
theorem dX3_reckonFlows_32 : decode cX3_reckonFlows 32 = .ok (.if_icmp .ge 46, 3) := by decide +kernel
theorem dX3_reckonFlows_35 : decode cX3_reckonFlows 35 = .ok (.aload_n 0, 1) := by decide +kernel
theorem dX3_reckonFlows_36 : decode cX3_reckonFlows 36 = .ok (.iload_n 2, 1) := by decide +kernel
theorem dX3_reckonFlows_37 : decode cX3_reckonFlows 37 = .ok (.invokevirtual 76, 3) := by decide +kernel
theorem dX3_reckonFlows_40 : decode cX3_reckonFlows 40 = .ok (.ifCond .eq 32, 3) := by decide +kernel
theorem dX3_reckonFlows_43 : decode cX3_reckonFlows 43 = .ok (.aload_n 0, 1) := by decide +kernel
theorem dX3_reckonFlows_44 : decode cX3_reckonFlows 44 = .ok (.getfield 24, 3) := by decide +kernel
theorem dX3_reckonFlows_47 : decode cX3_reckonFlows 47 = .ok (.aload_n 0, 1) := by decide +kernel
theorem dX3_reckonFlows_48 : decode cX3_reckonFlows 48 = .ok (.getfield 27, 3) := by decide +kernel
theorem dX3_reckonFlows_51 : decode cX3_reckonFlows 51 = .ok (.iload_n 2, 1) := by decide +kernel
theorem dX3_reckonFlows_52 : decode cX3_reckonFlows 52 = .ok (.iaload, 1) := by decide +kernel
theorem dX3_reckonFlows_53 : decode cX3_reckonFlows 53 = .ok (.dup2, 1) := by decide +kernel
theorem dX3_reckonFlows_54 : decode cX3_reckonFlows 54 = .ok (.iaload, 1) := by decide +kernel
theorem dX3_reckonFlows_55 : decode cX3_reckonFlows 55 = .ok (.aload_n 0, 1) := by decide +kernel
theorem dX3_reckonFlows_56 : decode cX3_reckonFlows 56 = .ok (.getfield 30, 3) := by decide +kernel
theorem dX3_reckonFlows_59 : decode cX3_reckonFlows 59 = .ok (.iload_n 2, 1) := by decide +kernel
theorem dX3_reckonFlows_60 : decode cX3_reckonFlows 60 = .ok (.iaload, 1) := by decide +kernel
theorem dX3_reckonFlows_61 : decode cX3_reckonFlows 61 = .ok (.iadd, 1) := by decide +kernel
theorem dX3_reckonFlows_62 : decode cX3_reckonFlows 62 = .ok (.iastore, 1) := by decide +kernel
theorem dX3_reckonFlows_63 : decode cX3_reckonFlows 63 = .ok (.iload_n 1, 1) := by decide +kernel
theorem dX3_reckonFlows_64 : decode cX3_reckonFlows 64 = .ok (.aload_n 0, 1) := by decide +kernel
theorem dX3_reckonFlows_65 : decode cX3_reckonFlows 65 = .ok (.getfield 30, 3) := by decide +kernel
theorem dX3_reckonFlows_68 : decode cX3_reckonFlows 68 = .ok (.iload_n 2, 1) := by decide +kernel
theorem dX3_reckonFlows_69 : decode cX3_reckonFlows 69 = .ok (.iaload, 1) := by decide +kernel
theorem dX3_reckonFlows_70 : decode cX3_reckonFlows 70 = .ok (.iadd, 1) := by decide +kernel
theorem dX3_reckonFlows_71 : decode cX3_reckonFlows 71 = .ok (.istore_n 1, 1) := by decide +kernel
theorem dX3_reckonFlows_72 : decode cX3_reckonFlows 72 = .ok (.iinc 2 1, 3) := by decide +kernel
theorem dX3_reckonFlows_75 : decode cX3_reckonFlows 75 = .ok (.goto (-48), 3) := by decide +kernel
theorem dX3_reckonFlows_78 : decode cX3_reckonFlows 78 = .ok (.iload_n 1, 1) := by decide +kernel
theorem dX3_reckonFlows_79 : decode cX3_reckonFlows 79 = .ok (.ireturn, 1) := by decide +kernel
theorem dX3_flowOf_0 : decode cX3_flowOf 0 = .ok (.aload_n 0, 1) := by decide +kernel
theorem dX3_flowOf_1 : decode cX3_flowOf 1 = .ok (.invokevirtual 79, 3) := by decide +kernel
theorem dX3_flowOf_4 : decode cX3_flowOf 4 = .ok (.pop, 1) := by decide +kernel
theorem dX3_flowOf_5 : decode cX3_flowOf 5 = .ok (.aload_n 0, 1) := by decide +kernel
theorem dX3_flowOf_6 : decode cX3_flowOf 6 = .ok (.getfield 24, 3) := by decide +kernel
theorem dX3_flowOf_9 : decode cX3_flowOf 9 = .ok (.iload_n 1, 1) := by decide +kernel
theorem dX3_flowOf_10 : decode cX3_flowOf 10 = .ok (.iaload, 1) := by decide +kernel
theorem dX3_flowOf_11 : decode cX3_flowOf 11 = .ok (.ireturn, 1) := by decide +kernel
theorem dX3_passLine_0 : decode cX3_passLine 0 = .ok (.aload_n 0, 1) := by decide +kernel
theorem dX3_passLine_1 : decode cX3_passLine 1 = .ok (.iload_n 1, 1) := by decide +kernel
theorem dX3_passLine_2 : decode cX3_passLine 2 = .ok (.invokevirtual 70, 3) := by decide +kernel
theorem dX3_passLine_5 : decode cX3_passLine 5 = .ok (.ifCond .eq 57, 3) := by decide +kernel
theorem dX3_passLine_8 : decode cX3_passLine 8 = .ok (.aload_n 0, 1) := by decide +kernel
theorem dX3_passLine_9 : decode cX3_passLine 9 = .ok (.iload_n 1, 1) := by decide +kernel
theorem dX3_passLine_10 : decode cX3_passLine 10 = .ok (.invokevirtual 94, 3) := by decide +kernel
theorem dX3_passLine_13 : decode cX3_passLine 13 = .ok (.astore_n 3, 1) := by decide +kernel
theorem dX3_passLine_14 : decode cX3_passLine 14 = .ok (.aload_n 0, 1) := by decide +kernel
theorem dX3_passLine_15 : decode cX3_passLine 15 = .ok (.getfield 18, 3) := by decide +kernel
theorem dX3_passLine_18 : decode cX3_passLine 18 = .ok (.iload_n 1, 1) := by decide +kernel
theorem dX3_passLine_19 : decode cX3_passLine 19 = .ok (.aload_n 3, 1) := by decide +kernel
theorem dX3_passLine_20 : decode cX3_passLine 20 = .ok (.aload_n 0, 1) := by decide +kernel
theorem dX3_passLine_21 : decode cX3_passLine 21 = .ok (.getfield 18, 3) := by decide +kernel
theorem dX3_passLine_24 : decode cX3_passLine 24 = .ok (.iload_n 1, 1) := by decide +kernel
theorem dX3_passLine_25 : decode cX3_passLine 25 = .ok (.iaload, 1) := by decide +kernel
theorem dX3_passLine_26 : decode cX3_passLine 26 = .ok (.iload_n 2, 1) := by decide +kernel
theorem dX3_passLine_27 : decode cX3_passLine 27 = .ok (.aload_n 0, 1) := by decide +kernel
theorem dX3_passLine_28 : decode cX3_passLine 28 = .ok (.getfield 15, 3) := by decide +kernel
theorem dX3_passLine_31 : decode cX3_passLine 31 = .ok (.iload_n 1, 1) := by decide +kernel
theorem dX3_passLine_32 : decode cX3_passLine 32 = .ok (.iaload, 1) := by decide +kernel
theorem dX3_passLine_33 : decode cX3_passLine 33 = .ok (.isub, 1) := by decide +kernel
theorem dX3_passLine_34 : decode cX3_passLine 34 = .ok (.invokevirtual 98, 3) := by decide +kernel
theorem dX3_passLine_37 : decode cX3_passLine 37 = .ok (.iastore, 1) := by decide +kernel
theorem dX3_passLine_38 : decode cX3_passLine 38 = .ok (.aload_n 0, 1) := by decide +kernel
theorem dX3_passLine_39 : decode cX3_passLine 39 = .ok (.getfield 21, 3) := by decide +kernel
theorem dX3_passLine_42 : decode cX3_passLine 42 = .ok (.iload_n 1, 1) := by decide +kernel
theorem dX3_passLine_43 : decode cX3_passLine 43 = .ok (.aload_n 3, 1) := by decide +kernel
theorem dX3_passLine_44 : decode cX3_passLine 44 = .ok (.aload_n 0, 1) := by decide +kernel
theorem dX3_passLine_45 : decode cX3_passLine 45 = .ok (.getfield 18, 3) := by decide +kernel
theorem dX3_passLine_48 : decode cX3_passLine 48 = .ok (.iload_n 1, 1) := by decide +kernel
theorem dX3_passLine_49 : decode cX3_passLine 49 = .ok (.iaload, 1) := by decide +kernel
theorem dX3_passLine_50 : decode cX3_passLine 50 = .ok (.iload_n 2, 1) := by decide +kernel
theorem dX3_passLine_51 : decode cX3_passLine 51 = .ok (.aload_n 0, 1) := by decide +kernel
theorem dX3_passLine_52 : decode cX3_passLine 52 = .ok (.getfield 15, 3) := by decide +kernel
theorem dX3_passLine_55 : decode cX3_passLine 55 = .ok (.iload_n 1, 1) := by decide +kernel
theorem dX3_passLine_56 : decode cX3_passLine 56 = .ok (.iaload, 1) := by decide +kernel
theorem dX3_passLine_57 : decode cX3_passLine 57 = .ok (.invokevirtual 103, 3) := by decide +kernel
theorem dX3_passLine_60 : decode cX3_passLine 60 = .ok (.iastore, 1) := by decide +kernel
theorem dX3_passLine_61 : decode cX3_passLine 61 = .ok (.return_, 1) := by decide +kernel
theorem dX3_passLine_62 : decode cX3_passLine 62 = .ok (.aload_n 0, 1) := by decide +kernel
theorem dX3_passLine_63 : decode cX3_passLine 63 = .ok (.getfield 18, 3) := by decide +kernel
theorem dX3_passLine_66 : decode cX3_passLine 66 = .ok (.iload_n 1, 1) := by decide +kernel
theorem dX3_passLine_67 : decode cX3_passLine 67 = .ok (.iconst 0, 1) := by decide +kernel
theorem dX3_passLine_68 : decode cX3_passLine 68 = .ok (.aload_n 0, 1) := by decide +kernel
theorem dX3_passLine_69 : decode cX3_passLine 69 = .ok (.getfield 18, 3) := by decide +kernel
theorem dX3_passLine_72 : decode cX3_passLine 72 = .ok (.iload_n 1, 1) := by decide +kernel
theorem dX3_passLine_73 : decode cX3_passLine 73 = .ok (.iaload, 1) := by decide +kernel
theorem dX3_passLine_74 : decode cX3_passLine 74 = .ok (.iconst 1, 1) := by decide +kernel
theorem dX3_passLine_75 : decode cX3_passLine 75 = .ok (.isub, 1) := by decide +kernel
theorem dX3_passLine_76 : decode cX3_passLine 76 = .ok (.invokestatic 107, 3) := by decide +kernel
theorem dX3_passLine_79 : decode cX3_passLine 79 = .ok (.iastore, 1) := by decide +kernel
theorem dX3_passLine_80 : decode cX3_passLine 80 = .ok (.aload_n 0, 1) := by decide +kernel
theorem dX3_passLine_81 : decode cX3_passLine 81 = .ok (.getfield 9, 3) := by decide +kernel
theorem dX3_passLine_84 : decode cX3_passLine 84 = .ok (.iload_n 1, 1) := by decide +kernel
theorem dX3_passLine_85 : decode cX3_passLine 85 = .ok (.iaload, 1) := by decide +kernel
theorem dX3_passLine_86 : decode cX3_passLine 86 = .ok (.iconst 5, 1) := by decide +kernel
theorem dX3_passLine_87 : decode cX3_passLine 87 = .ok (.if_icmp .ne 21, 3) := by decide +kernel
theorem dX3_passLine_90 : decode cX3_passLine 90 = .ok (.aload_n 0, 1) := by decide +kernel
theorem dX3_passLine_91 : decode cX3_passLine 91 = .ok (.iload_n 1, 1) := by decide +kernel
theorem dX3_passLine_92 : decode cX3_passLine 92 = .ok (.invokevirtual 73, 3) := by decide +kernel
theorem dX3_passLine_95 : decode cX3_passLine 95 = .ok (.ifCond .eq 13, 3) := by decide +kernel
theorem dX3_passLine_98 : decode cX3_passLine 98 = .ok (.aload_n 0, 1) := by decide +kernel
theorem dX3_passLine_99 : decode cX3_passLine 99 = .ok (.getfield 21, 3) := by decide +kernel
theorem dX3_passLine_102 : decode cX3_passLine 102 = .ok (.iload_n 1, 1) := by decide +kernel
theorem dX3_passLine_103 : decode cX3_passLine 103 = .ok (.dup2, 1) := by decide +kernel
theorem dX3_passLine_104 : decode cX3_passLine 104 = .ok (.iaload, 1) := by decide +kernel
theorem dX3_passLine_105 : decode cX3_passLine 105 = .ok (.iconst 1, 1) := by decide +kernel
theorem dX3_passLine_106 : decode cX3_passLine 106 = .ok (.isub, 1) := by decide +kernel
theorem dX3_passLine_107 : decode cX3_passLine 107 = .ok (.iastore, 1) := by decide +kernel
theorem dX3_passLine_108 : decode cX3_passLine 108 = .ok (.return_, 1) := by decide +kernel
theorem dX3_passMinute_0 : decode cX3_passMinute 0 = .ok (.aload_n 0, 1) := by decide +kernel
theorem dX3_passMinute_1 : decode cX3_passMinute 1 = .ok (.invokevirtual 79, 3) := by decide +kernel
theorem dX3_passMinute_4 : decode cX3_passMinute 4 = .ok (.istore_n 1, 1) := by decide +kernel
theorem dX3_passMinute_5 : decode cX3_passMinute 5 = .ok (.iconst 0, 1) := by decide +kernel
theorem dX3_passMinute_6 : decode cX3_passMinute 6 = .ok (.istore_n 2, 1) := by decide +kernel
theorem dX3_passMinute_7 : decode cX3_passMinute 7 = .ok (.iload_n 2, 1) := by decide +kernel
theorem dX3_passMinute_8 : decode cX3_passMinute 8 = .ok (.aload_n 0, 1) := by decide +kernel
theorem dX3_passMinute_9 : decode cX3_passMinute 9 = .ok (.getfield 37, 3) := by decide +kernel
theorem dX3_passMinute_12 : decode cX3_passMinute 12 = .ok (.if_icmp .ge 20, 3) := by decide +kernel
theorem dX3_passMinute_15 : decode cX3_passMinute 15 = .ok (.aload_n 0, 1) := by decide +kernel
theorem dX3_passMinute_16 : decode cX3_passMinute 16 = .ok (.iload_n 2, 1) := by decide +kernel
theorem dX3_passMinute_17 : decode cX3_passMinute 17 = .ok (.aload_n 0, 1) := by decide +kernel
theorem dX3_passMinute_18 : decode cX3_passMinute 18 = .ok (.getfield 24, 3) := by decide +kernel
theorem dX3_passMinute_21 : decode cX3_passMinute 21 = .ok (.iload_n 2, 1) := by decide +kernel
theorem dX3_passMinute_22 : decode cX3_passMinute 22 = .ok (.iaload, 1) := by decide +kernel
theorem dX3_passMinute_23 : decode cX3_passMinute 23 = .ok (.invokevirtual 83, 3) := by decide +kernel
theorem dX3_passMinute_26 : decode cX3_passMinute 26 = .ok (.iinc 2 1, 3) := by decide +kernel
theorem dX3_passMinute_29 : decode cX3_passMinute 29 = .ok (.goto (-22), 3) := by decide +kernel
theorem dX3_passMinute_32 : decode cX3_passMinute 32 = .ok (.iload_n 1, 1) := by decide +kernel
theorem dX3_passMinute_33 : decode cX3_passMinute 33 = .ok (.aload_n 0, 1) := by decide +kernel
theorem dX3_passMinute_34 : decode cX3_passMinute 34 = .ok (.getfield 44, 3) := by decide +kernel
theorem dX3_passMinute_37 : decode cX3_passMinute 37 = .ok (.if_icmp .le 8, 3) := by decide +kernel
theorem dX3_passMinute_40 : decode cX3_passMinute 40 = .ok (.aload_n 0, 1) := by decide +kernel
theorem dX3_passMinute_41 : decode cX3_passMinute 41 = .ok (.iconst 0, 1) := by decide +kernel
theorem dX3_passMinute_42 : decode cX3_passMinute 42 = .ok (.putfield 53, 3) := by decide +kernel
theorem dX3_passMinute_45 : decode cX3_passMinute 45 = .ok (.aload_n 0, 1) := by decide +kernel
theorem dX3_passMinute_46 : decode cX3_passMinute 46 = .ok (.ldc 87, 2) := by decide +kernel
theorem dX3_passMinute_48 : decode cX3_passMinute 48 = .ok (.aload_n 0, 1) := by decide +kernel
theorem dX3_passMinute_49 : decode cX3_passMinute 49 = .ok (.getfield 50, 3) := by decide +kernel
theorem dX3_passMinute_52 : decode cX3_passMinute 52 = .ok (.iload_n 1, 1) := by decide +kernel
theorem dX3_passMinute_53 : decode cX3_passMinute 53 = .ok (.iadd, 1) := by decide +kernel
theorem dX3_passMinute_54 : decode cX3_passMinute 54 = .ok (.invokestatic 88, 3) := by decide +kernel
theorem dX3_passMinute_57 : decode cX3_passMinute 57 = .ok (.putfield 50, 3) := by decide +kernel
theorem dX3_passMinute_60 : decode cX3_passMinute 60 = .ok (.aload_n 0, 1) := by decide +kernel
theorem dX3_passMinute_61 : decode cX3_passMinute 61 = .ok (.dup, 1) := by decide +kernel
theorem dX3_passMinute_62 : decode cX3_passMinute 62 = .ok (.getfield 47, 3) := by decide +kernel
theorem dX3_passMinute_65 : decode cX3_passMinute 65 = .ok (.iconst 1, 1) := by decide +kernel
theorem dX3_passMinute_66 : decode cX3_passMinute 66 = .ok (.iadd, 1) := by decide +kernel
theorem dX3_passMinute_67 : decode cX3_passMinute 67 = .ok (.putfield 47, 3) := by decide +kernel
theorem dX3_passMinute_70 : decode cX3_passMinute 70 = .ok (.return_, 1) := by decide +kernel
theorem dX3_staysLive_0 : decode cX3_staysLive 0 = .ok (.iconst 0, 1) := by decide +kernel
theorem dX3_staysLive_1 : decode cX3_staysLive 1 = .ok (.istore_n 3, 1) := by decide +kernel
theorem dX3_staysLive_2 : decode cX3_staysLive 2 = .ok (.iload_n 3, 1) := by decide +kernel
theorem dX3_staysLive_3 : decode cX3_staysLive 3 = .ok (.iload_n 2, 1) := by decide +kernel
theorem dX3_staysLive_4 : decode cX3_staysLive 4 = .ok (.if_icmp .ge 23, 3) := by decide +kernel
theorem dX3_staysLive_7 : decode cX3_staysLive 7 = .ok (.aload_n 0, 1) := by decide +kernel
theorem dX3_staysLive_8 : decode cX3_staysLive 8 = .ok (.invokevirtual 110, 3) := by decide +kernel
theorem dX3_staysLive_11 : decode cX3_staysLive 11 = .ok (.aload_n 0, 1) := by decide +kernel
theorem dX3_staysLive_12 : decode cX3_staysLive 12 = .ok (.iload_n 1, 1) := by decide +kernel
theorem dX3_staysLive_13 : decode cX3_staysLive 13 = .ok (.invokevirtual 70, 3) := by decide +kernel
theorem dX3_staysLive_16 : decode cX3_staysLive 16 = .ok (.ifCond .ne 5, 3) := by decide +kernel
theorem dX3_staysLive_19 : decode cX3_staysLive 19 = .ok (.iconst 0, 1) := by decide +kernel
theorem dX3_staysLive_20 : decode cX3_staysLive 20 = .ok (.ireturn, 1) := by decide +kernel
theorem dX3_staysLive_21 : decode cX3_staysLive 21 = .ok (.iinc 3 1, 3) := by decide +kernel
theorem dX3_staysLive_24 : decode cX3_staysLive 24 = .ok (.goto (-22), 3) := by decide +kernel
theorem dX3_staysLive_27 : decode cX3_staysLive 27 = .ok (.iconst 1, 1) := by decide +kernel
theorem dX3_staysLive_28 : decode cX3_staysLive 28 = .ok (.ireturn, 1) := by decide +kernel
theorem dX3_liveMinutes_0 : decode cX3_liveMinutes 0 = .ok (.aload_n 0, 1) := by decide +kernel
theorem dX3_liveMinutes_1 : decode cX3_liveMinutes 1 = .ok (.getfield 18, 3) := by decide +kernel
theorem dX3_liveMinutes_4 : decode cX3_liveMinutes 4 = .ok (.iload_n 1, 1) := by decide +kernel
theorem dX3_liveMinutes_5 : decode cX3_liveMinutes 5 = .ok (.iaload, 1) := by decide +kernel
theorem dX3_liveMinutes_6 : decode cX3_liveMinutes 6 = .ok (.istore 4, 2) := by decide +kernel
theorem dX3_liveMinutes_8 : decode cX3_liveMinutes 8 = .ok (.aload_n 0, 1) := by decide +kernel
theorem dX3_liveMinutes_9 : decode cX3_liveMinutes 9 = .ok (.getfield 21, 3) := by decide +kernel
theorem dX3_liveMinutes_12 : decode cX3_liveMinutes 12 = .ok (.iload_n 1, 1) := by decide +kernel
theorem dX3_liveMinutes_13 : decode cX3_liveMinutes 13 = .ok (.iaload, 1) := by decide +kernel
theorem dX3_liveMinutes_14 : decode cX3_liveMinutes 14 = .ok (.istore 5, 2) := by decide +kernel
theorem dX3_liveMinutes_16 : decode cX3_liveMinutes 16 = .ok (.iconst 0, 1) := by decide +kernel
theorem dX3_liveMinutes_17 : decode cX3_liveMinutes 17 = .ok (.istore 6, 2) := by decide +kernel
theorem dX3_liveMinutes_19 : decode cX3_liveMinutes 19 = .ok (.iconst 0, 1) := by decide +kernel
theorem dX3_liveMinutes_20 : decode cX3_liveMinutes 20 = .ok (.istore 7, 2) := by decide +kernel
theorem dX3_liveMinutes_22 : decode cX3_liveMinutes 22 = .ok (.iload 7, 2) := by decide +kernel
theorem dX3_liveMinutes_24 : decode cX3_liveMinutes 24 = .ok (.iload_n 3, 1) := by decide +kernel
theorem dX3_liveMinutes_25 : decode cX3_liveMinutes 25 = .ok (.if_icmp .ge 49, 3) := by decide +kernel
theorem dX3_liveMinutes_28 : decode cX3_liveMinutes 28 = .ok (.aload_n 0, 1) := by decide +kernel
theorem dX3_liveMinutes_29 : decode cX3_liveMinutes 29 = .ok (.iload_n 1, 1) := by decide +kernel
theorem dX3_liveMinutes_30 : decode cX3_liveMinutes 30 = .ok (.invokevirtual 70, 3) := by decide +kernel
theorem dX3_liveMinutes_33 : decode cX3_liveMinutes 33 = .ok (.istore 8, 2) := by decide +kernel
theorem dX3_liveMinutes_35 : decode cX3_liveMinutes 35 = .ok (.iload 6, 2) := by decide +kernel
theorem dX3_liveMinutes_37 : decode cX3_liveMinutes 37 = .ok (.iload 8, 2) := by decide +kernel
theorem dX3_liveMinutes_39 : decode cX3_liveMinutes 39 = .ok (.ifCond .eq 10, 3) := by decide +kernel
theorem dX3_liveMinutes_42 : decode cX3_liveMinutes 42 = .ok (.iconst 1, 1) := by decide +kernel
theorem dX3_liveMinutes_43 : decode cX3_liveMinutes 43 = .ok (.iload 7, 2) := by decide +kernel
theorem dX3_liveMinutes_45 : decode cX3_liveMinutes 45 = .ok (.ishl, 1) := by decide +kernel
theorem dX3_liveMinutes_46 : decode cX3_liveMinutes 46 = .ok (.goto 4, 3) := by decide +kernel
theorem dX3_liveMinutes_49 : decode cX3_liveMinutes 49 = .ok (.iconst 0, 1) := by decide +kernel
theorem dX3_liveMinutes_50 : decode cX3_liveMinutes 50 = .ok (.ior, 1) := by decide +kernel
theorem dX3_liveMinutes_51 : decode cX3_liveMinutes 51 = .ok (.istore 6, 2) := by decide +kernel
theorem dX3_liveMinutes_53 : decode cX3_liveMinutes 53 = .ok (.aload_n 0, 1) := by decide +kernel
theorem dX3_liveMinutes_54 : decode cX3_liveMinutes 54 = .ok (.iload_n 1, 1) := by decide +kernel
theorem dX3_liveMinutes_55 : decode cX3_liveMinutes 55 = .ok (.iload 8, 2) := by decide +kernel
theorem dX3_liveMinutes_57 : decode cX3_liveMinutes 57 = .ok (.ifCond .eq 7, 3) := by decide +kernel
theorem dX3_liveMinutes_60 : decode cX3_liveMinutes 60 = .ok (.iload_n 2, 1) := by decide +kernel
theorem dX3_liveMinutes_61 : decode cX3_liveMinutes 61 = .ok (.goto 4, 3) := by decide +kernel
theorem dX3_liveMinutes_64 : decode cX3_liveMinutes 64 = .ok (.iconst 0, 1) := by decide +kernel
theorem dX3_liveMinutes_65 : decode cX3_liveMinutes 65 = .ok (.invokevirtual 83, 3) := by decide +kernel
theorem dX3_liveMinutes_68 : decode cX3_liveMinutes 68 = .ok (.iinc 7 1, 3) := by decide +kernel
theorem dX3_liveMinutes_71 : decode cX3_liveMinutes 71 = .ok (.goto (-49), 3) := by decide +kernel
theorem dX3_liveMinutes_74 : decode cX3_liveMinutes 74 = .ok (.aload_n 0, 1) := by decide +kernel
theorem dX3_liveMinutes_75 : decode cX3_liveMinutes 75 = .ok (.getfield 18, 3) := by decide +kernel
theorem dX3_liveMinutes_78 : decode cX3_liveMinutes 78 = .ok (.iload_n 1, 1) := by decide +kernel
theorem dX3_liveMinutes_79 : decode cX3_liveMinutes 79 = .ok (.iload 4, 2) := by decide +kernel
theorem dX3_liveMinutes_81 : decode cX3_liveMinutes 81 = .ok (.iastore, 1) := by decide +kernel
theorem dX3_liveMinutes_82 : decode cX3_liveMinutes 82 = .ok (.aload_n 0, 1) := by decide +kernel
theorem dX3_liveMinutes_83 : decode cX3_liveMinutes 83 = .ok (.getfield 21, 3) := by decide +kernel
theorem dX3_liveMinutes_86 : decode cX3_liveMinutes 86 = .ok (.iload_n 1, 1) := by decide +kernel
theorem dX3_liveMinutes_87 : decode cX3_liveMinutes 87 = .ok (.iload 5, 2) := by decide +kernel
theorem dX3_liveMinutes_89 : decode cX3_liveMinutes 89 = .ok (.iastore, 1) := by decide +kernel
theorem dX3_liveMinutes_90 : decode cX3_liveMinutes 90 = .ok (.iload 6, 2) := by decide +kernel
theorem dX3_liveMinutes_92 : decode cX3_liveMinutes 92 = .ok (.ireturn, 1) := by decide +kernel
theorem dX3_heatsAs_0 : decode cX3_heatsAs 0 = .ok (.iconst 0, 1) := by decide +kernel
theorem dX3_heatsAs_1 : decode cX3_heatsAs 1 = .ok (.istore 5, 2) := by decide +kernel
theorem dX3_heatsAs_3 : decode cX3_heatsAs 3 = .ok (.iload 5, 2) := by decide +kernel
theorem dX3_heatsAs_5 : decode cX3_heatsAs 5 = .ok (.iload 4, 2) := by decide +kernel
theorem dX3_heatsAs_7 : decode cX3_heatsAs 7 = .ok (.if_icmp .ge 30, 3) := by decide +kernel
theorem dX3_heatsAs_10 : decode cX3_heatsAs 10 = .ok (.aload_n 0, 1) := by decide +kernel
theorem dX3_heatsAs_11 : decode cX3_heatsAs 11 = .ok (.invokevirtual 110, 3) := by decide +kernel
theorem dX3_heatsAs_14 : decode cX3_heatsAs 14 = .ok (.aload_n 0, 1) := by decide +kernel
theorem dX3_heatsAs_15 : decode cX3_heatsAs 15 = .ok (.getfield 18, 3) := by decide +kernel
theorem dX3_heatsAs_18 : decode cX3_heatsAs 18 = .ok (.iload_n 1, 1) := by decide +kernel
theorem dX3_heatsAs_19 : decode cX3_heatsAs 19 = .ok (.iaload, 1) := by decide +kernel
theorem dX3_heatsAs_20 : decode cX3_heatsAs 20 = .ok (.aload_n 2, 1) := by decide +kernel
theorem dX3_heatsAs_21 : decode cX3_heatsAs 21 = .ok (.iload_n 3, 1) := by decide +kernel
theorem dX3_heatsAs_22 : decode cX3_heatsAs 22 = .ok (.iload 5, 2) := by decide +kernel
theorem dX3_heatsAs_24 : decode cX3_heatsAs 24 = .ok (.iadd, 1) := by decide +kernel
theorem dX3_heatsAs_25 : decode cX3_heatsAs 25 = .ok (.iaload, 1) := by decide +kernel
theorem dX3_heatsAs_26 : decode cX3_heatsAs 26 = .ok (.if_icmp .eq 5, 3) := by decide +kernel
theorem dX3_heatsAs_29 : decode cX3_heatsAs 29 = .ok (.iconst 0, 1) := by decide +kernel
theorem dX3_heatsAs_30 : decode cX3_heatsAs 30 = .ok (.ireturn, 1) := by decide +kernel
theorem dX3_heatsAs_31 : decode cX3_heatsAs 31 = .ok (.iinc 5 1, 3) := by decide +kernel
theorem dX3_heatsAs_34 : decode cX3_heatsAs 34 = .ok (.goto (-31), 3) := by decide +kernel
theorem dX3_heatsAs_37 : decode cX3_heatsAs 37 = .ok (.iconst 1, 1) := by decide +kernel
theorem dX3_heatsAs_38 : decode cX3_heatsAs 38 = .ok (.ireturn, 1) := by decide +kernel
theorem dX3_takeKind_0 : decode cX3_takeKind 0 = .ok (.aload_n 0, 1) := by decide +kernel
theorem dX3_takeKind_1 : decode cX3_takeKind 1 = .ok (.iload_n 1, 1) := by decide +kernel
theorem dX3_takeKind_2 : decode cX3_takeKind 2 = .ok (.invokevirtual 73, 3) := by decide +kernel
theorem dX3_takeKind_5 : decode cX3_takeKind 5 = .ok (.ifCond .eq 29, 3) := by decide +kernel
theorem dX3_takeKind_8 : decode cX3_takeKind 8 = .ok (.aload_n 0, 1) := by decide +kernel
theorem dX3_takeKind_9 : decode cX3_takeKind 9 = .ok (.getfield 9, 3) := by decide +kernel
theorem dX3_takeKind_12 : decode cX3_takeKind 12 = .ok (.iload_n 1, 1) := by decide +kernel
theorem dX3_takeKind_13 : decode cX3_takeKind 13 = .ok (.iaload, 1) := by decide +kernel
theorem dX3_takeKind_14 : decode cX3_takeKind 14 = .ok (.iload_n 2, 1) := by decide +kernel
theorem dX3_takeKind_15 : decode cX3_takeKind 15 = .ok (.if_icmp .eq 19, 3) := by decide +kernel
theorem dX3_takeKind_18 : decode cX3_takeKind 18 = .ok (.aload_n 0, 1) := by decide +kernel
theorem dX3_takeKind_19 : decode cX3_takeKind 19 = .ok (.getfield 21, 3) := by decide +kernel
theorem dX3_takeKind_22 : decode cX3_takeKind 22 = .ok (.iload_n 1, 1) := by decide +kernel
theorem dX3_takeKind_23 : decode cX3_takeKind 23 = .ok (.iload_n 2, 1) := by decide +kernel
theorem dX3_takeKind_24 : decode cX3_takeKind 24 = .ok (.iconst 5, 1) := by decide +kernel
theorem dX3_takeKind_25 : decode cX3_takeKind 25 = .ok (.if_icmp .ne 7, 3) := by decide +kernel
theorem dX3_takeKind_28 : decode cX3_takeKind 28 = .ok (.iconst 3, 1) := by decide +kernel
theorem dX3_takeKind_29 : decode cX3_takeKind 29 = .ok (.goto 4, 3) := by decide +kernel
theorem dX3_takeKind_32 : decode cX3_takeKind 32 = .ok (.iconst 1, 1) := by decide +kernel
theorem dX3_takeKind_33 : decode cX3_takeKind 33 = .ok (.iastore, 1) := by decide +kernel
theorem dX3_takeKind_34 : decode cX3_takeKind 34 = .ok (.aload_n 0, 1) := by decide +kernel
theorem dX3_takeKind_35 : decode cX3_takeKind 35 = .ok (.getfield 9, 3) := by decide +kernel
theorem dX3_takeKind_38 : decode cX3_takeKind 38 = .ok (.iload_n 1, 1) := by decide +kernel
theorem dX3_takeKind_39 : decode cX3_takeKind 39 = .ok (.iload_n 2, 1) := by decide +kernel
theorem dX3_takeKind_40 : decode cX3_takeKind 40 = .ok (.iastore, 1) := by decide +kernel
theorem dX3_takeKind_41 : decode cX3_takeKind 41 = .ok (.return_, 1) := by decide +kernel
theorem dX3_mendAll_0 : decode cX3_mendAll 0 = .ok (.iconst 0, 1) := by decide +kernel
theorem dX3_mendAll_1 : decode cX3_mendAll 1 = .ok (.istore_n 1, 1) := by decide +kernel
theorem dX3_mendAll_2 : decode cX3_mendAll 2 = .ok (.iload_n 1, 1) := by decide +kernel
theorem dX3_mendAll_3 : decode cX3_mendAll 3 = .ok (.aload_n 0, 1) := by decide +kernel
theorem dX3_mendAll_4 : decode cX3_mendAll 4 = .ok (.getfield 37, 3) := by decide +kernel
theorem dX3_mendAll_7 : decode cX3_mendAll 7 = .ok (.if_icmp .ge 22, 3) := by decide +kernel
theorem dX3_mendAll_10 : decode cX3_mendAll 10 = .ok (.aload_n 0, 1) := by decide +kernel
theorem dX3_mendAll_11 : decode cX3_mendAll 11 = .ok (.iload_n 1, 1) := by decide +kernel
theorem dX3_mendAll_12 : decode cX3_mendAll 12 = .ok (.invokevirtual 73, 3) := by decide +kernel
theorem dX3_mendAll_15 : decode cX3_mendAll 15 = .ok (.ifCond .eq 8, 3) := by decide +kernel
theorem dX3_mendAll_18 : decode cX3_mendAll 18 = .ok (.aload_n 0, 1) := by decide +kernel
theorem dX3_mendAll_19 : decode cX3_mendAll 19 = .ok (.iload_n 1, 1) := by decide +kernel
theorem dX3_mendAll_20 : decode cX3_mendAll 20 = .ok (.invokevirtual 124, 3) := by decide +kernel
theorem dX3_mendAll_23 : decode cX3_mendAll 23 = .ok (.iinc 1 1, 3) := by decide +kernel
theorem dX3_mendAll_26 : decode cX3_mendAll 26 = .ok (.goto (-24), 3) := by decide +kernel
theorem dX3_mendAll_29 : decode cX3_mendAll 29 = .ok (.aload_n 0, 1) := by decide +kernel
theorem dX3_mendAll_30 : decode cX3_mendAll 30 = .ok (.iconst 1, 1) := by decide +kernel
theorem dX3_mendAll_31 : decode cX3_mendAll 31 = .ok (.putfield 53, 3) := by decide +kernel
theorem dX3_mendAll_34 : decode cX3_mendAll 34 = .ok (.return_, 1) := by decide +kernel
theorem dX3_draw_0 : decode cX3_draw 0 = .ok (.lload_n 1, 1) := by decide +kernel
theorem dX3_draw_1 : decode cX3_draw 1 = .ok (.ldc2_w 113, 3) := by decide +kernel
theorem dX3_draw_4 : decode cX3_draw 4 = .ok (.lrem, 1) := by decide +kernel
theorem dX3_draw_5 : decode cX3_draw 5 = .ok (.lconst 0, 1) := by decide +kernel
theorem dX3_draw_6 : decode cX3_draw 6 = .ok (.lcmp, 1) := by decide +kernel
theorem dX3_draw_7 : decode cX3_draw 7 = .ok (.ifCond .ne 29, 3) := by decide +kernel
theorem dX3_draw_10 : decode cX3_draw 10 = .ok (.aload_n 0, 1) := by decide +kernel
theorem dX3_draw_11 : decode cX3_draw 11 = .ok (.aload_n 0, 1) := by decide +kernel
theorem dX3_draw_12 : decode cX3_draw 12 = .ok (.getfield 41, 3) := by decide +kernel
theorem dX3_draw_15 : decode cX3_draw 15 = .ok (.ifCond .le 14, 3) := by decide +kernel
theorem dX3_draw_18 : decode cX3_draw 18 = .ok (.lload_n 1, 1) := by decide +kernel
theorem dX3_draw_19 : decode cX3_draw 19 = .ok (.aload_n 0, 1) := by decide +kernel
theorem dX3_draw_20 : decode cX3_draw 20 = .ok (.getfield 41, 3) := by decide +kernel
theorem dX3_draw_23 : decode cX3_draw 23 = .ok (.i2l, 1) := by decide +kernel
theorem dX3_draw_24 : decode cX3_draw 24 = .ok (.lrem, 1) := by decide +kernel
theorem dX3_draw_25 : decode cX3_draw 25 = .ok (.l2i, 1) := by decide +kernel
theorem dX3_draw_26 : decode cX3_draw 26 = .ok (.goto 4, 3) := by decide +kernel
theorem dX3_draw_29 : decode cX3_draw 29 = .ok (.iconst 0, 1) := by decide +kernel
theorem dX3_draw_30 : decode cX3_draw 30 = .ok (.invokevirtual 115, 3) := by decide +kernel
theorem dX3_draw_33 : decode cX3_draw 33 = .ok (.goto 17, 3) := by decide +kernel
theorem dX3_draw_36 : decode cX3_draw 36 = .ok (.lload_n 1, 1) := by decide +kernel
theorem dX3_draw_37 : decode cX3_draw 37 = .ok (.ldc2_w 119, 3) := by decide +kernel
theorem dX3_draw_40 : decode cX3_draw 40 = .ok (.lrem, 1) := by decide +kernel
theorem dX3_draw_41 : decode cX3_draw 41 = .ok (.lconst 0, 1) := by decide +kernel
theorem dX3_draw_42 : decode cX3_draw 42 = .ok (.lcmp, 1) := by decide +kernel
theorem dX3_draw_43 : decode cX3_draw 43 = .ok (.ifCond .ne 7, 3) := by decide +kernel
theorem dX3_draw_46 : decode cX3_draw 46 = .ok (.aload_n 0, 1) := by decide +kernel
theorem dX3_draw_47 : decode cX3_draw 47 = .ok (.invokevirtual 121, 3) := by decide +kernel
theorem dX3_draw_50 : decode cX3_draw 50 = .ok (.return_, 1) := by decide +kernel
