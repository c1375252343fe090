theorem dX11_noRow_0 : decode cX11_noRow 0 = .ok (.iload_n 0, 1) := by decide +kernel
theorem dX11_noRow_1 : decode cX11_noRow 1 = .ok (.ifCond .lt 9, 3) := by decide +kernel
theorem dX11_noRow_4 : decode cX11_noRow 4 = .ok (.iload_n 0, 1) := by decide +kernel
theorem dX11_noRow_5 : decode cX11_noRow 5 = .ok (.bipush 8, 2) := by decide +kernel
theorem dX11_noRow_7 : decode cX11_noRow 7 = .ok (.if_icmp .lt 7, 3) := by decide +kernel
theorem dX11_noRow_10 : decode cX11_noRow 10 = .ok (.iconst 1, 1) := by decide +kernel
theorem dX11_noRow_11 : decode cX11_noRow 11 = .ok (.goto 4, 3) := by decide +kernel
theorem dX11_noRow_14 : decode cX11_noRow 14 = .ok (.iconst 0, 1) := by decide +kernel
theorem dX11_noRow_15 : decode cX11_noRow 15 = .ok (.ireturn, 1) := by decide +kernel
theorem dX11_found_0 : decode cX11_found 0 = .ok (.aload_n 0, 1) := by decide +kernel
theorem dX11_found_1 : decode cX11_found 1 = .ok (.iload_n 1, 1) := by decide +kernel
theorem dX11_found_2 : decode cX11_found 2 = .ok (.putfield 120, 3) := by decide +kernel
theorem dX11_found_5 : decode cX11_found 5 = .ok (.ldc 123, 2) := by decide +kernel
theorem dX11_found_7 : decode cX11_found 7 = .ok (.iload_n 1, 1) := by decide +kernel
theorem dX11_found_8 : decode cX11_found 8 = .ok (.isub, 1) := by decide +kernel
theorem dX11_found_9 : decode cX11_found 9 = .ok (.ireturn, 1) := by decide +kernel
theorem dX11_fine_0 : decode cX11_fine 0 = .ok (.aload_n 0, 1) := by decide +kernel
theorem dX11_fine_1 : decode cX11_fine 1 = .ok (.iconst 0, 1) := by decide +kernel
theorem dX11_fine_2 : decode cX11_fine 2 = .ok (.putfield 120, 3) := by decide +kernel
theorem dX11_fine_5 : decode cX11_fine 5 = .ok (.iload_n 1, 1) := by decide +kernel
theorem dX11_fine_6 : decode cX11_fine 6 = .ok (.ireturn, 1) := by decide +kernel
theorem dX11_row_0 : decode cX11_row 0 = .ok (.iload_n 1, 1) := by decide +kernel
theorem dX11_row_1 : decode cX11_row 1 = .ok (.invokestatic 73, 3) := by decide +kernel
theorem dX11_row_4 : decode cX11_row 4 = .ok (.ifCond .ne 18, 3) := by decide +kernel
theorem dX11_row_7 : decode cX11_row 7 = .ok (.iload_n 2, 1) := by decide +kernel
theorem dX11_row_8 : decode cX11_row 8 = .ok (.ifCond .lt 14, 3) := by decide +kernel
theorem dX11_row_11 : decode cX11_row 11 = .ok (.iload_n 2, 1) := by decide +kernel
theorem dX11_row_12 : decode cX11_row 12 = .ok (.iconst 2, 1) := by decide +kernel
theorem dX11_row_13 : decode cX11_row 13 = .ok (.if_icmp .gt 9, 3) := by decide +kernel
theorem dX11_row_16 : decode cX11_row 16 = .ok (.iload_n 3, 1) := by decide +kernel
theorem dX11_row_17 : decode cX11_row 17 = .ok (.bipush 40, 2) := by decide +kernel
theorem dX11_row_19 : decode cX11_row 19 = .ok (.if_icmp .le 6, 3) := by decide +kernel
theorem dX11_row_22 : decode cX11_row 22 = .ok (.ldc 77, 2) := by decide +kernel
theorem dX11_row_24 : decode cX11_row 24 = .ok (.ireturn, 1) := by decide +kernel
theorem dX11_row_25 : decode cX11_row 25 = .ok (.iload_n 3, 1) := by decide +kernel
theorem dX11_row_26 : decode cX11_row 26 = .ok (.ifCond .ge 9, 3) := by decide +kernel
theorem dX11_row_29 : decode cX11_row 29 = .ok (.aload_n 0, 1) := by decide +kernel
theorem dX11_row_30 : decode cX11_row 30 = .ok (.iconst 4, 1) := by decide +kernel
theorem dX11_row_31 : decode cX11_row 31 = .ok (.invokevirtual 78, 3) := by decide +kernel
theorem dX11_row_34 : decode cX11_row 34 = .ok (.ireturn, 1) := by decide +kernel
theorem dX11_row_35 : decode cX11_row 35 = .ok (.aload_n 0, 1) := by decide +kernel
theorem dX11_row_36 : decode cX11_row 36 = .ok (.getfield 11, 3) := by decide +kernel
theorem dX11_row_39 : decode cX11_row 39 = .ok (.iload_n 1, 1) := by decide +kernel
theorem dX11_row_40 : decode cX11_row 40 = .ok (.aaload, 1) := by decide +kernel
theorem dX11_row_41 : decode cX11_row 41 = .ok (.iload_n 2, 1) := by decide +kernel
theorem dX11_row_42 : decode cX11_row 42 = .ok (.iload_n 3, 1) := by decide +kernel
theorem dX11_row_43 : decode cX11_row 43 = .ok (.invokevirtual 82, 3) := by decide +kernel
theorem dX11_row_46 : decode cX11_row 46 = .ok (.aload_n 0, 1) := by decide +kernel
theorem dX11_row_47 : decode cX11_row 47 = .ok (.iload_n 3, 1) := by decide +kernel
theorem dX11_row_48 : decode cX11_row 48 = .ok (.invokevirtual 86, 3) := by decide +kernel
theorem dX11_row_51 : decode cX11_row 51 = .ok (.ireturn, 1) := by decide +kernel
theorem dX11_set_0 : decode cX11_set 0 = .ok (.iload_n 1, 1) := by decide +kernel
theorem dX11_set_1 : decode cX11_set 1 = .ok (.invokestatic 73, 3) := by decide +kernel
theorem dX11_set_4 : decode cX11_set 4 = .ok (.ifCond .eq 6, 3) := by decide +kernel
theorem dX11_set_7 : decode cX11_set 7 = .ok (.ldc 77, 2) := by decide +kernel
theorem dX11_set_9 : decode cX11_set 9 = .ok (.ireturn, 1) := by decide +kernel
theorem dX11_set_10 : decode cX11_set 10 = .ok (.aload_n 0, 1) := by decide +kernel
theorem dX11_set_11 : decode cX11_set 11 = .ok (.getfield 11, 3) := by decide +kernel
theorem dX11_set_14 : decode cX11_set 14 = .ok (.iload_n 1, 1) := by decide +kernel
theorem dX11_set_15 : decode cX11_set 15 = .ok (.aaload, 1) := by decide +kernel
theorem dX11_set_16 : decode cX11_set 16 = .ok (.astore 4, 2) := by decide +kernel
theorem dX11_set_18 : decode cX11_set 18 = .ok (.aload 4, 2) := by decide +kernel
theorem dX11_set_20 : decode cX11_set 20 = .ok (.invokevirtual 89, 3) := by decide +kernel
theorem dX11_set_23 : decode cX11_set 23 = .ok (.ifCond .eq 9, 3) := by decide +kernel
theorem dX11_set_26 : decode cX11_set 26 = .ok (.aload_n 0, 1) := by decide +kernel
theorem dX11_set_27 : decode cX11_set 27 = .ok (.iconst 1, 1) := by decide +kernel
theorem dX11_set_28 : decode cX11_set 28 = .ok (.invokevirtual 78, 3) := by decide +kernel
theorem dX11_set_31 : decode cX11_set 31 = .ok (.ireturn, 1) := by decide +kernel
theorem dX11_set_32 : decode cX11_set 32 = .ok (.aload 4, 2) := by decide +kernel
theorem dX11_set_34 : decode cX11_set 34 = .ok (.iload_n 2, 1) := by decide +kernel
theorem dX11_set_35 : decode cX11_set 35 = .ok (.iconst 1, 1) := by decide +kernel
theorem dX11_set_36 : decode cX11_set 36 = .ok (.invokevirtual 93, 3) := by decide +kernel
theorem dX11_set_39 : decode cX11_set 39 = .ok (.ifCond .ne 9, 3) := by decide +kernel
theorem dX11_set_42 : decode cX11_set 42 = .ok (.aload_n 0, 1) := by decide +kernel
theorem dX11_set_43 : decode cX11_set 43 = .ok (.iconst 2, 1) := by decide +kernel
theorem dX11_set_44 : decode cX11_set 44 = .ok (.invokevirtual 78, 3) := by decide +kernel
theorem dX11_set_47 : decode cX11_set 47 = .ok (.ireturn, 1) := by decide +kernel
theorem dX11_set_48 : decode cX11_set 48 = .ok (.aload 4, 2) := by decide +kernel
theorem dX11_set_50 : decode cX11_set 50 = .ok (.getfield 97, 3) := by decide +kernel
theorem dX11_set_53 : decode cX11_set 53 = .ok (.iload_n 2, 1) := by decide +kernel
theorem dX11_set_54 : decode cX11_set 54 = .ok (.aload 4, 2) := by decide +kernel
theorem dX11_set_56 : decode cX11_set 56 = .ok (.iload_n 3, 1) := by decide +kernel
theorem dX11_set_57 : decode cX11_set 57 = .ok (.invokevirtual 101, 3) := by decide +kernel
theorem dX11_set_60 : decode cX11_set 60 = .ok (.iastore, 1) := by decide +kernel
theorem dX11_set_61 : decode cX11_set 61 = .ok (.aload_n 0, 1) := by decide +kernel
theorem dX11_set_62 : decode cX11_set 62 = .ok (.aload 4, 2) := by decide +kernel
theorem dX11_set_64 : decode cX11_set 64 = .ok (.getfield 97, 3) := by decide +kernel
theorem dX11_set_67 : decode cX11_set 67 = .ok (.iload_n 2, 1) := by decide +kernel
theorem dX11_set_68 : decode cX11_set 68 = .ok (.iaload, 1) := by decide +kernel
theorem dX11_set_69 : decode cX11_set 69 = .ok (.invokevirtual 86, 3) := by decide +kernel
theorem dX11_set_72 : decode cX11_set 72 = .ok (.ireturn, 1) := by decide +kernel
theorem dX11_copy_0 : decode cX11_copy 0 = .ok (.iload_n 1, 1) := by decide +kernel
theorem dX11_copy_1 : decode cX11_copy 1 = .ok (.invokestatic 73, 3) := by decide +kernel
theorem dX11_copy_4 : decode cX11_copy 4 = .ok (.ifCond .ne 10, 3) := by decide +kernel
theorem dX11_copy_7 : decode cX11_copy 7 = .ok (.iload_n 3, 1) := by decide +kernel
theorem dX11_copy_8 : decode cX11_copy 8 = .ok (.invokestatic 73, 3) := by decide +kernel
theorem dX11_copy_11 : decode cX11_copy 11 = .ok (.ifCond .eq 6, 3) := by decide +kernel
theorem dX11_copy_14 : decode cX11_copy 14 = .ok (.ldc 77, 2) := by decide +kernel
theorem dX11_copy_16 : decode cX11_copy 16 = .ok (.ireturn, 1) := by decide +kernel
theorem dX11_copy_17 : decode cX11_copy 17 = .ok (.aload_n 0, 1) := by decide +kernel
theorem dX11_copy_18 : decode cX11_copy 18 = .ok (.getfield 11, 3) := by decide +kernel
theorem dX11_copy_21 : decode cX11_copy 21 = .ok (.iload_n 1, 1) := by decide +kernel
theorem dX11_copy_22 : decode cX11_copy 22 = .ok (.aaload, 1) := by decide +kernel
theorem dX11_copy_23 : decode cX11_copy 23 = .ok (.astore 6, 2) := by decide +kernel
theorem dX11_copy_25 : decode cX11_copy 25 = .ok (.aload_n 0, 1) := by decide +kernel
theorem dX11_copy_26 : decode cX11_copy 26 = .ok (.getfield 11, 3) := by decide +kernel
theorem dX11_copy_29 : decode cX11_copy 29 = .ok (.iload_n 3, 1) := by decide +kernel
theorem dX11_copy_30 : decode cX11_copy 30 = .ok (.aaload, 1) := by decide +kernel
theorem dX11_copy_31 : decode cX11_copy 31 = .ok (.astore 7, 2) := by decide +kernel
theorem dX11_copy_33 : decode cX11_copy 33 = .ok (.aload 6, 2) := by decide +kernel
theorem dX11_copy_35 : decode cX11_copy 35 = .ok (.invokevirtual 89, 3) := by decide +kernel
theorem dX11_copy_38 : decode cX11_copy 38 = .ok (.ifCond .ne 11, 3) := by decide +kernel
theorem dX11_copy_41 : decode cX11_copy 41 = .ok (.aload 7, 2) := by decide +kernel
theorem dX11_copy_43 : decode cX11_copy 43 = .ok (.invokevirtual 89, 3) := by decide +kernel
theorem dX11_copy_46 : decode cX11_copy 46 = .ok (.ifCond .eq 9, 3) := by decide +kernel
theorem dX11_copy_49 : decode cX11_copy 49 = .ok (.aload_n 0, 1) := by decide +kernel
theorem dX11_copy_50 : decode cX11_copy 50 = .ok (.iconst 1, 1) := by decide +kernel
theorem dX11_copy_51 : decode cX11_copy 51 = .ok (.invokevirtual 78, 3) := by decide +kernel
theorem dX11_copy_54 : decode cX11_copy 54 = .ok (.ireturn, 1) := by decide +kernel
theorem dX11_copy_55 : decode cX11_copy 55 = .ok (.aload 6, 2) := by decide +kernel
theorem dX11_copy_57 : decode cX11_copy 57 = .ok (.getfield 104, 3) := by decide +kernel
theorem dX11_copy_60 : decode cX11_copy 60 = .ok (.aload 7, 2) := by decide +kernel
theorem dX11_copy_62 : decode cX11_copy 62 = .ok (.getfield 104, 3) := by decide +kernel
theorem dX11_copy_65 : decode cX11_copy 65 = .ok (.if_icmp .eq 9, 3) := by decide +kernel
theorem dX11_copy_68 : decode cX11_copy 68 = .ok (.aload_n 0, 1) := by decide +kernel
theorem dX11_copy_69 : decode cX11_copy 69 = .ok (.iconst 5, 1) := by decide +kernel
theorem dX11_copy_70 : decode cX11_copy 70 = .ok (.invokevirtual 78, 3) := by decide +kernel
theorem dX11_copy_73 : decode cX11_copy 73 = .ok (.ireturn, 1) := by decide +kernel
theorem dX11_copy_74 : decode cX11_copy 74 = .ok (.aload 6, 2) := by decide +kernel
theorem dX11_copy_76 : decode cX11_copy 76 = .ok (.iload_n 2, 1) := by decide +kernel
theorem dX11_copy_77 : decode cX11_copy 77 = .ok (.iload 5, 2) := by decide +kernel
theorem dX11_copy_79 : decode cX11_copy 79 = .ok (.invokevirtual 93, 3) := by decide +kernel
theorem dX11_copy_82 : decode cX11_copy 82 = .ok (.ifCond .eq 15, 3) := by decide +kernel
theorem dX11_copy_85 : decode cX11_copy 85 = .ok (.aload 7, 2) := by decide +kernel
theorem dX11_copy_87 : decode cX11_copy 87 = .ok (.iload 4, 2) := by decide +kernel
theorem dX11_copy_89 : decode cX11_copy 89 = .ok (.iload 5, 2) := by decide +kernel
theorem dX11_copy_91 : decode cX11_copy 91 = .ok (.invokevirtual 93, 3) := by decide +kernel
theorem dX11_copy_94 : decode cX11_copy 94 = .ok (.ifCond .ne 9, 3) := by decide +kernel
theorem dX11_copy_97 : decode cX11_copy 97 = .ok (.aload_n 0, 1) := by decide +kernel
theorem dX11_copy_98 : decode cX11_copy 98 = .ok (.iconst 2, 1) := by decide +kernel
theorem dX11_copy_99 : decode cX11_copy 99 = .ok (.invokevirtual 78, 3) := by decide +kernel
theorem dX11_copy_102 : decode cX11_copy 102 = .ok (.ireturn, 1) := by decide +kernel
theorem dX11_copy_103 : decode cX11_copy 103 = .ok (.aload 6, 2) := by decide +kernel
theorem dX11_copy_105 : decode cX11_copy 105 = .ok (.getfield 97, 3) := by decide +kernel
theorem dX11_copy_108 : decode cX11_copy 108 = .ok (.iload_n 2, 1) := by decide +kernel
theorem dX11_copy_109 : decode cX11_copy 109 = .ok (.aload 7, 2) := by decide +kernel
theorem dX11_copy_111 : decode cX11_copy 111 = .ok (.getfield 97, 3) := by decide +kernel
theorem dX11_copy_114 : decode cX11_copy 114 = .ok (.iload 4, 2) := by decide +kernel
theorem dX11_copy_116 : decode cX11_copy 116 = .ok (.iload 5, 2) := by decide +kernel
theorem dX11_copy_118 : decode cX11_copy 118 = .ok (.invokestatic 108, 3) := by decide +kernel
theorem dX11_copy_121 : decode cX11_copy 121 = .ok (.aload_n 0, 1) := by decide +kernel
theorem dX11_copy_122 : decode cX11_copy 122 = .ok (.iload 5, 2) := by decide +kernel
theorem dX11_copy_124 : decode cX11_copy 124 = .ok (.invokevirtual 86, 3) := by decide +kernel
theorem dX11_copy_127 : decode cX11_copy 127 = .ok (.ireturn, 1) := by decide +kernel
theorem dX11_drop_0 : decode cX11_drop 0 = .ok (.iload_n 1, 1) := by decide +kernel
theorem dX11_drop_1 : decode cX11_drop 1 = .ok (.invokestatic 73, 3) := by decide +kernel
theorem dX11_drop_4 : decode cX11_drop 4 = .ok (.ifCond .eq 6, 3) := by decide +kernel
theorem dX11_drop_7 : decode cX11_drop 7 = .ok (.ldc 77, 2) := by decide +kernel
theorem dX11_drop_9 : decode cX11_drop 9 = .ok (.ireturn, 1) := by decide +kernel
theorem dX11_drop_10 : decode cX11_drop 10 = .ok (.aload_n 0, 1) := by decide +kernel
theorem dX11_drop_11 : decode cX11_drop 11 = .ok (.getfield 11, 3) := by decide +kernel
theorem dX11_drop_14 : decode cX11_drop 14 = .ok (.iload_n 1, 1) := by decide +kernel
theorem dX11_drop_15 : decode cX11_drop 15 = .ok (.aaload, 1) := by decide +kernel
theorem dX11_drop_16 : decode cX11_drop 16 = .ok (.astore_n 2, 1) := by decide +kernel
theorem dX11_drop_17 : decode cX11_drop 17 = .ok (.aload_n 2, 1) := by decide +kernel
theorem dX11_drop_18 : decode cX11_drop 18 = .ok (.invokevirtual 89, 3) := by decide +kernel
theorem dX11_drop_21 : decode cX11_drop 21 = .ok (.ifCond .eq 9, 3) := by decide +kernel
theorem dX11_drop_24 : decode cX11_drop 24 = .ok (.aload_n 0, 1) := by decide +kernel
theorem dX11_drop_25 : decode cX11_drop 25 = .ok (.iconst 1, 1) := by decide +kernel
theorem dX11_drop_26 : decode cX11_drop 26 = .ok (.invokevirtual 78, 3) := by decide +kernel
theorem dX11_drop_29 : decode cX11_drop 29 = .ok (.ireturn, 1) := by decide +kernel
theorem dX11_drop_30 : decode cX11_drop 30 = .ok (.aload_n 2, 1) := by decide +kernel
theorem dX11_drop_31 : decode cX11_drop 31 = .ok (.getfield 114, 3) := by decide +kernel
theorem dX11_drop_34 : decode cX11_drop 34 = .ok (.istore_n 3, 1) := by decide +kernel
theorem dX11_drop_35 : decode cX11_drop 35 = .ok (.aload_n 2, 1) := by decide +kernel
theorem dX11_drop_36 : decode cX11_drop 36 = .ok (.invokevirtual 117, 3) := by decide +kernel
theorem dX11_drop_39 : decode cX11_drop 39 = .ok (.aload_n 0, 1) := by decide +kernel
theorem dX11_drop_40 : decode cX11_drop 40 = .ok (.iload_n 3, 1) := by decide +kernel
theorem dX11_drop_41 : decode cX11_drop 41 = .ok (.invokevirtual 86, 3) := by decide +kernel
theorem dX11_drop_44 : decode cX11_drop 44 = .ok (.ireturn, 1) := by decide +kernel
theorem dX11_feed_0 : decode cX11_feed 0 = .ok (.iload_n 1, 1) := by decide +kernel
theorem dX11_feed_1 : decode cX11_feed 1 = .ok (.ifCond .lt 10, 3) := by decide +kernel
theorem dX11_feed_4 : decode cX11_feed 4 = .ok (.iload_n 1, 1) := by decide +kernel
theorem dX11_feed_5 : decode cX11_feed 5 = .ok (.sipush 255, 3) := by decide +kernel
theorem dX11_feed_8 : decode cX11_feed 8 = .ok (.if_icmp .le 6, 3) := by decide +kernel
theorem dX11_feed_11 : decode cX11_feed 11 = .ok (.ldc 77, 2) := by decide +kernel
theorem dX11_feed_13 : decode cX11_feed 13 = .ok (.ireturn, 1) := by decide +kernel
theorem dX11_feed_14 : decode cX11_feed 14 = .ok (.aload_n 0, 1) := by decide +kernel
theorem dX11_feed_15 : decode cX11_feed 15 = .ok (.getfield 18, 3) := by decide +kernel
theorem dX11_feed_18 : decode cX11_feed 18 = .ok (.getfield 124, 3) := by decide +kernel
theorem dX11_feed_21 : decode cX11_feed 21 = .ok (.bipush 90, 2) := by decide +kernel
theorem dX11_feed_23 : decode cX11_feed 23 = .ok (.if_icmp .lt 6, 3) := by decide +kernel
theorem dX11_feed_26 : decode cX11_feed 26 = .ok (.ldc 125, 2) := by decide +kernel
theorem dX11_feed_28 : decode cX11_feed 28 = .ok (.ireturn, 1) := by decide +kernel
theorem dX11_feed_29 : decode cX11_feed 29 = .ok (.aload_n 0, 1) := by decide +kernel
theorem dX11_feed_30 : decode cX11_feed 30 = .ok (.getfield 18, 3) := by decide +kernel
theorem dX11_feed_33 : decode cX11_feed 33 = .ok (.iload_n 1, 1) := by decide +kernel
theorem dX11_feed_34 : decode cX11_feed 34 = .ok (.invokevirtual 126, 3) := by decide +kernel
theorem dX11_feed_37 : decode cX11_feed 37 = .ok (.ireturn, 1) := by decide +kernel
theorem dX11_forgetActs_0 : decode cX11_forgetActs 0 = .ok (.aload_n 0, 1) := by decide +kernel
theorem dX11_forgetActs_1 : decode cX11_forgetActs 1 = .ok (.iconst 0, 1) := by decide +kernel
theorem dX11_forgetActs_2 : decode cX11_forgetActs 2 = .ok (.putfield 205, 3) := by decide +kernel
theorem dX11_forgetActs_5 : decode cX11_forgetActs 5 = .ok (.aload_n 0, 1) := by decide +kernel
theorem dX11_forgetActs_6 : decode cX11_forgetActs 6 = .ok (.iconst 0, 1) := by decide +kernel
theorem dX11_forgetActs_7 : decode cX11_forgetActs 7 = .ok (.putfield 202, 3) := by decide +kernel
theorem dX11_forgetActs_10 : decode cX11_forgetActs 10 = .ok (.return_, 1) := by decide +kernel
theorem dX11_house_0 : decode cX11_house 0 = .ok (.aload_n 0, 1) := by decide +kernel
theorem dX11_house_1 : decode cX11_house 1 = .ok (.getfield 18, 3) := by decide +kernel
theorem dX11_house_4 : decode cX11_house 4 = .ok (.aload_n 0, 1) := by decide +kernel
theorem dX11_house_5 : decode cX11_house 5 = .ok (.getfield 69, 3) := by decide +kernel
theorem dX11_house_8 : decode cX11_house 8 = .ok (.invokevirtual 129, 3) := by decide +kernel
theorem dX11_house_11 : decode cX11_house 11 = .ok (.istore_n 1, 1) := by decide +kernel
theorem dX11_house_12 : decode cX11_house 12 = .ok (.iload_n 1, 1) := by decide +kernel
theorem dX11_house_13 : decode cX11_house 13 = .ok (.ifCond .eq 19, 3) := by decide +kernel
theorem dX11_house_16 : decode cX11_house 16 = .ok (.aload_n 0, 1) := by decide +kernel
theorem dX11_house_17 : decode cX11_house 17 = .ok (.iload_n 1, 1) := by decide +kernel
theorem dX11_house_18 : decode cX11_house 18 = .ok (.putfield 133, 3) := by decide +kernel
theorem dX11_house_21 : decode cX11_house 21 = .ok (.ldc 136, 2) := by decide +kernel
theorem dX11_house_23 : decode cX11_house 23 = .ok (.aload_n 0, 1) := by decide +kernel
theorem dX11_house_24 : decode cX11_house 24 = .ok (.getfield 18, 3) := by decide +kernel
theorem dX11_house_27 : decode cX11_house 27 = .ok (.getfield 137, 3) := by decide +kernel
theorem dX11_house_30 : decode cX11_house 30 = .ok (.isub, 1) := by decide +kernel
theorem dX11_house_31 : decode cX11_house 31 = .ok (.ireturn, 1) := by decide +kernel
theorem dX11_house_32 : decode cX11_house 32 = .ok (.aload_n 0, 1) := by decide +kernel
theorem dX11_house_33 : decode cX11_house 33 = .ok (.getfield 65, 3) := by decide +kernel
theorem dX11_house_36 : decode cX11_house 36 = .ok (.aload_n 0, 1) := by decide +kernel
theorem dX11_house_37 : decode cX11_house 37 = .ok (.getfield 69, 3) := by decide +kernel
theorem dX11_house_40 : decode cX11_house 40 = .ok (.invokevirtual 140, 3) := by decide +kernel
theorem dX11_house_43 : decode cX11_house 43 = .ok (.aload_n 0, 1) := by decide +kernel
theorem dX11_house_44 : decode cX11_house 44 = .ok (.invokevirtual 144, 3) := by decide +kernel
theorem dX11_house_47 : decode cX11_house 47 = .ok (.aload_n 0, 1) := by decide +kernel
theorem dX11_house_48 : decode cX11_house 48 = .ok (.getfield 65, 3) := by decide +kernel
theorem dX11_house_51 : decode cX11_house 51 = .ok (.getfield 147, 3) := by decide +kernel
theorem dX11_house_54 : decode cX11_house 54 = .ok (.ireturn, 1) := by decide +kernel
theorem dX11_fault_0 : decode cX11_fault 0 = .ok (.aload_n 0, 1) := by decide +kernel
theorem dX11_fault_1 : decode cX11_fault 1 = .ok (.getfield 133, 3) := by decide +kernel
theorem dX11_fault_4 : decode cX11_fault 4 = .ok (.ireturn, 1) := by decide +kernel
theorem dX11_noHouse_0 : decode cX11_noHouse 0 = .ok (.aload_n 0, 1) := by decide +kernel
theorem dX11_noHouse_1 : decode cX11_noHouse 1 = .ok (.getfield 65, 3) := by decide +kernel
theorem dX11_noHouse_4 : decode cX11_noHouse 4 = .ok (.getfield 147, 3) := by decide +kernel
theorem dX11_noHouse_7 : decode cX11_noHouse 7 = .ok (.ifCond .ne 7, 3) := by decide +kernel
theorem dX11_noHouse_10 : decode cX11_noHouse 10 = .ok (.iconst 1, 1) := by decide +kernel
theorem dX11_noHouse_11 : decode cX11_noHouse 11 = .ok (.goto 4, 3) := by decide +kernel
theorem dX11_noHouse_14 : decode cX11_noHouse 14 = .ok (.iconst 0, 1) := by decide +kernel
theorem dX11_noHouse_15 : decode cX11_noHouse 15 = .ok (.ireturn, 1) := by decide +kernel
theorem dX11_keepAct_0 : decode cX11_keepAct 0 = .ok (.aload_n 0, 1) := by decide +kernel
theorem dX11_keepAct_1 : decode cX11_keepAct 1 = .ok (.getfield 202, 3) := by decide +kernel
theorem dX11_keepAct_4 : decode cX11_keepAct 4 = .ok (.bipush 24, 2) := by decide +kernel
theorem dX11_keepAct_6 : decode cX11_keepAct 6 = .ok (.if_icmp .ne 26, 3) := by decide +kernel
theorem dX11_keepAct_9 : decode cX11_keepAct 9 = .ok (.aload_n 0, 1) := by decide +kernel
theorem dX11_keepAct_10 : decode cX11_keepAct 10 = .ok (.aload_n 0, 1) := by decide +kernel
theorem dX11_keepAct_11 : decode cX11_keepAct 11 = .ok (.getfield 205, 3) := by decide +kernel
theorem dX11_keepAct_14 : decode cX11_keepAct 14 = .ok (.iconst 1, 1) := by decide +kernel
theorem dX11_keepAct_15 : decode cX11_keepAct 15 = .ok (.iadd, 1) := by decide +kernel
theorem dX11_keepAct_16 : decode cX11_keepAct 16 = .ok (.bipush 24, 2) := by decide +kernel
theorem dX11_keepAct_18 : decode cX11_keepAct 18 = .ok (.irem, 1) := by decide +kernel
theorem dX11_keepAct_19 : decode cX11_keepAct 19 = .ok (.putfield 205, 3) := by decide +kernel
theorem dX11_keepAct_22 : decode cX11_keepAct 22 = .ok (.aload_n 0, 1) := by decide +kernel
theorem dX11_keepAct_23 : decode cX11_keepAct 23 = .ok (.dup, 1) := by decide +kernel
theorem dX11_keepAct_24 : decode cX11_keepAct 24 = .ok (.getfield 202, 3) := by decide +kernel
theorem dX11_keepAct_27 : decode cX11_keepAct 27 = .ok (.iconst 1, 1) := by decide +kernel
theorem dX11_keepAct_28 : decode cX11_keepAct 28 = .ok (.isub, 1) := by decide +kernel
theorem dX11_keepAct_29 : decode cX11_keepAct 29 = .ok (.putfield 202, 3) := by decide +kernel
theorem dX11_keepAct_32 : decode cX11_keepAct 32 = .ok (.aload_n 0, 1) := by decide +kernel
theorem dX11_keepAct_33 : decode cX11_keepAct 33 = .ok (.getfield 28, 3) := by decide +kernel
theorem dX11_keepAct_36 : decode cX11_keepAct 36 = .ok (.aload_n 0, 1) := by decide +kernel
theorem dX11_keepAct_37 : decode cX11_keepAct 37 = .ok (.getfield 205, 3) := by decide +kernel
theorem dX11_keepAct_40 : decode cX11_keepAct 40 = .ok (.aload_n 0, 1) := by decide +kernel
theorem dX11_keepAct_41 : decode cX11_keepAct 41 = .ok (.getfield 202, 3) := by decide +kernel
theorem dX11_keepAct_44 : decode cX11_keepAct 44 = .ok (.iadd, 1) := by decide +kernel
theorem dX11_keepAct_45 : decode cX11_keepAct 45 = .ok (.bipush 24, 2) := by decide +kernel
theorem dX11_keepAct_47 : decode cX11_keepAct 47 = .ok (.irem, 1) := by decide +kernel
theorem dX11_keepAct_48 : decode cX11_keepAct 48 = .ok (.aaload, 1) := by decide +kernel
theorem dX11_keepAct_49 : decode cX11_keepAct 49 = .ok (.aload_n 0, 1) := by decide +kernel
theorem dX11_keepAct_50 : decode cX11_keepAct 50 = .ok (.getfield 65, 3) := by decide +kernel
theorem dX11_keepAct_53 : decode cX11_keepAct 53 = .ok (.invokevirtual 140, 3) := by decide +kernel
theorem dX11_keepAct_56 : decode cX11_keepAct 56 = .ok (.aload_n 0, 1) := by decide +kernel
theorem dX11_keepAct_57 : decode cX11_keepAct 57 = .ok (.dup, 1) := by decide +kernel
theorem dX11_keepAct_58 : decode cX11_keepAct 58 = .ok (.getfield 202, 3) := by decide +kernel
theorem dX11_keepAct_61 : decode cX11_keepAct 61 = .ok (.iconst 1, 1) := by decide +kernel
theorem dX11_keepAct_62 : decode cX11_keepAct 62 = .ok (.iadd, 1) := by decide +kernel
theorem dX11_keepAct_63 : decode cX11_keepAct 63 = .ok (.putfield 202, 3) := by decide +kernel
theorem dX11_keepAct_66 : decode cX11_keepAct 66 = .ok (.return_, 1) := by decide +kernel
theorem dX11_minutes_0 : decode cX11_minutes 0 = .ok (.aload_n 0, 1) := by decide +kernel
theorem dX11_minutes_1 : decode cX11_minutes 1 = .ok (.invokevirtual 150, 3) := by decide +kernel
theorem dX11_minutes_4 : decode cX11_minutes 4 = .ok (.ifCond .eq 6, 3) := by decide +kernel
theorem dX11_minutes_7 : decode cX11_minutes 7 = .ok (.ldc 153, 2) := by decide +kernel
theorem dX11_minutes_9 : decode cX11_minutes 9 = .ok (.ireturn, 1) := by decide +kernel
theorem dX11_minutes_10 : decode cX11_minutes 10 = .ok (.iload_n 1, 1) := by decide +kernel
theorem dX11_minutes_11 : decode cX11_minutes 11 = .ok (.iconst 1, 1) := by decide +kernel
theorem dX11_minutes_12 : decode cX11_minutes 12 = .ok (.if_icmp .lt 9, 3) := by decide +kernel
theorem dX11_minutes_15 : decode cX11_minutes 15 = .ok (.iload_n 1, 1) := by decide +kernel
theorem dX11_minutes_16 : decode cX11_minutes 16 = .ok (.bipush 24, 2) := by decide +kernel
theorem dX11_minutes_18 : decode cX11_minutes 18 = .ok (.if_icmp .le 6, 3) := by decide +kernel
theorem dX11_minutes_21 : decode cX11_minutes 21 = .ok (.ldc 77, 2) := by decide +kernel
theorem dX11_minutes_23 : decode cX11_minutes 23 = .ok (.ireturn, 1) := by decide +kernel
theorem dX11_minutes_24 : decode cX11_minutes 24 = .ok (.aload_n 0, 1) := by decide +kernel
theorem dX11_minutes_25 : decode cX11_minutes 25 = .ok (.getfield 65, 3) := by decide +kernel
theorem dX11_minutes_28 : decode cX11_minutes 28 = .ok (.getfield 154, 3) := by decide +kernel
theorem dX11_minutes_31 : decode cX11_minutes 31 = .ok (.iload_n 1, 1) := by decide +kernel
theorem dX11_minutes_32 : decode cX11_minutes 32 = .ok (.iadd, 1) := by decide +kernel
theorem dX11_minutes_33 : decode cX11_minutes 33 = .ok (.sipush 9999, 3) := by decide +kernel
theorem dX11_minutes_36 : decode cX11_minutes 36 = .ok (.if_icmp .le 6, 3) := by decide +kernel
theorem dX11_minutes_39 : decode cX11_minutes 39 = .ok (.ldc 125, 2) := by decide +kernel
theorem dX11_minutes_41 : decode cX11_minutes 41 = .ok (.ireturn, 1) := by decide +kernel
theorem dX11_minutes_42 : decode cX11_minutes 42 = .ok (.iconst 0, 1) := by decide +kernel
theorem dX11_minutes_43 : decode cX11_minutes 43 = .ok (.istore_n 2, 1) := by decide +kernel
theorem dX11_minutes_44 : decode cX11_minutes 44 = .ok (.iload_n 2, 1) := by decide +kernel
theorem dX11_minutes_45 : decode cX11_minutes 45 = .ok (.iload_n 1, 1) := by decide +kernel
theorem dX11_minutes_46 : decode cX11_minutes 46 = .ok (.if_icmp .ge 20, 3) := by decide +kernel
theorem dX11_minutes_49 : decode cX11_minutes 49 = .ok (.aload_n 0, 1) := by decide +kernel
theorem dX11_minutes_50 : decode cX11_minutes 50 = .ok (.invokevirtual 157, 3) := by decide +kernel
theorem dX11_minutes_53 : decode cX11_minutes 53 = .ok (.aload_n 0, 1) := by decide +kernel
theorem dX11_minutes_54 : decode cX11_minutes 54 = .ok (.getfield 65, 3) := by decide +kernel
theorem dX11_minutes_57 : decode cX11_minutes 57 = .ok (.invokevirtual 160, 3) := by decide +kernel
theorem dX11_minutes_60 : decode cX11_minutes 60 = .ok (.iinc 2 1, 3) := by decide +kernel
theorem dX11_minutes_63 : decode cX11_minutes 63 = .ok (.goto (-19), 3) := by decide +kernel
theorem dX11_minutes_66 : decode cX11_minutes 66 = .ok (.aload_n 0, 1) := by decide +kernel
theorem dX11_minutes_67 : decode cX11_minutes 67 = .ok (.getfield 65, 3) := by decide +kernel
theorem dX11_minutes_70 : decode cX11_minutes 70 = .ok (.invokevirtual 163, 3) := by decide +kernel
theorem dX11_minutes_73 : decode cX11_minutes 73 = .ok (.ireturn, 1) := by decide +kernel
theorem dX11_noThing_0 : decode cX11_noThing 0 = .ok (.iload_n 1, 1) := by decide +kernel
theorem dX11_noThing_1 : decode cX11_noThing 1 = .ok (.ifCond .lt 14, 3) := by decide +kernel
theorem dX11_noThing_4 : decode cX11_noThing 4 = .ok (.iload_n 1, 1) := by decide +kernel
theorem dX11_noThing_5 : decode cX11_noThing 5 = .ok (.aload_n 0, 1) := by decide +kernel
theorem dX11_noThing_6 : decode cX11_noThing 6 = .ok (.getfield 65, 3) := by decide +kernel
theorem dX11_noThing_9 : decode cX11_noThing 9 = .ok (.getfield 229, 3) := by decide +kernel
theorem dX11_noThing_12 : decode cX11_noThing 12 = .ok (.if_icmp .lt 7, 3) := by decide +kernel
theorem dX11_noThing_15 : decode cX11_noThing 15 = .ok (.iconst 1, 1) := by decide +kernel
theorem dX11_noThing_16 : decode cX11_noThing 16 = .ok (.goto 4, 3) := by decide +kernel
theorem dX11_noThing_19 : decode cX11_noThing 19 = .ok (.iconst 0, 1) := by decide +kernel
theorem dX11_noThing_20 : decode cX11_noThing 20 = .ok (.ireturn, 1) := by decide +kernel
theorem dX11_turn_0 : decode cX11_turn 0 = .ok (.aload_n 0, 1) := by decide +kernel
theorem dX11_turn_1 : decode cX11_turn 1 = .ok (.iload_n 1, 1) := by decide +kernel
theorem dX11_turn_2 : decode cX11_turn 2 = .ok (.invokevirtual 167, 3) := by decide +kernel
theorem dX11_turn_5 : decode cX11_turn 5 = .ok (.ifCond .ne 12, 3) := by decide +kernel
theorem dX11_turn_8 : decode cX11_turn 8 = .ok (.iload_n 2, 1) := by decide +kernel
theorem dX11_turn_9 : decode cX11_turn 9 = .ok (.ifCond .lt 8, 3) := by decide +kernel
theorem dX11_turn_12 : decode cX11_turn 12 = .ok (.iload_n 2, 1) := by decide +kernel
theorem dX11_turn_13 : decode cX11_turn 13 = .ok (.iconst 1, 1) := by decide +kernel
theorem dX11_turn_14 : decode cX11_turn 14 = .ok (.if_icmp .le 6, 3) := by decide +kernel
theorem dX11_turn_17 : decode cX11_turn 17 = .ok (.ldc 77, 2) := by decide +kernel
theorem dX11_turn_19 : decode cX11_turn 19 = .ok (.ireturn, 1) := by decide +kernel
theorem dX11_turn_20 : decode cX11_turn 20 = .ok (.aload_n 0, 1) := by decide +kernel
theorem dX11_turn_21 : decode cX11_turn 21 = .ok (.getfield 65, 3) := by decide +kernel
theorem dX11_turn_24 : decode cX11_turn 24 = .ok (.iload_n 1, 1) := by decide +kernel
theorem dX11_turn_25 : decode cX11_turn 25 = .ok (.invokevirtual 170, 3) := by decide +kernel
theorem dX11_turn_28 : decode cX11_turn 28 = .ok (.iload_n 2, 1) := by decide +kernel
theorem dX11_turn_29 : decode cX11_turn 29 = .ok (.iconst 1, 1) := by decide +kernel
theorem dX11_turn_30 : decode cX11_turn 30 = .ok (.if_icmp .ne 7, 3) := by decide +kernel
theorem dX11_turn_33 : decode cX11_turn 33 = .ok (.iconst 1, 1) := by decide +kernel
theorem dX11_turn_34 : decode cX11_turn 34 = .ok (.goto 4, 3) := by decide +kernel
theorem dX11_turn_37 : decode cX11_turn 37 = .ok (.iconst 0, 1) := by decide +kernel
theorem dX11_turn_38 : decode cX11_turn 38 = .ok (.if_icmp .ne 6, 3) := by decide +kernel
theorem dX11_turn_41 : decode cX11_turn 41 = .ok (.ldc 153, 2) := by decide +kernel
theorem dX11_turn_43 : decode cX11_turn 43 = .ok (.ireturn, 1) := by decide +kernel
theorem dX11_turn_44 : decode cX11_turn 44 = .ok (.aload_n 0, 1) := by decide +kernel
theorem dX11_turn_45 : decode cX11_turn 45 = .ok (.invokevirtual 157, 3) := by decide +kernel
theorem dX11_turn_48 : decode cX11_turn 48 = .ok (.aload_n 0, 1) := by decide +kernel
theorem dX11_turn_49 : decode cX11_turn 49 = .ok (.getfield 65, 3) := by decide +kernel
theorem dX11_turn_52 : decode cX11_turn 52 = .ok (.iload_n 1, 1) := by decide +kernel
theorem dX11_turn_53 : decode cX11_turn 53 = .ok (.invokevirtual 173, 3) := by decide +kernel
theorem dX11_turn_56 : decode cX11_turn 56 = .ok (.aload_n 0, 1) := by decide +kernel
theorem dX11_turn_57 : decode cX11_turn 57 = .ok (.getfield 65, 3) := by decide +kernel
theorem dX11_turn_60 : decode cX11_turn 60 = .ok (.invokevirtual 177, 3) := by decide +kernel
theorem dX11_turn_63 : decode cX11_turn 63 = .ok (.ireturn, 1) := by decide +kernel
theorem dX11_noLine_0 : decode cX11_noLine 0 = .ok (.iload_n 1, 1) := by decide +kernel
theorem dX11_noLine_1 : decode cX11_noLine 1 = .ok (.ifCond .lt 14, 3) := by decide +kernel
theorem dX11_noLine_4 : decode cX11_noLine 4 = .ok (.iload_n 1, 1) := by decide +kernel
theorem dX11_noLine_5 : decode cX11_noLine 5 = .ok (.aload_n 0, 1) := by decide +kernel
theorem dX11_noLine_6 : decode cX11_noLine 6 = .ok (.getfield 65, 3) := by decide +kernel
theorem dX11_noLine_9 : decode cX11_noLine 9 = .ok (.getfield 147, 3) := by decide +kernel
theorem dX11_noLine_12 : decode cX11_noLine 12 = .ok (.if_icmp .lt 7, 3) := by decide +kernel
theorem dX11_noLine_15 : decode cX11_noLine 15 = .ok (.iconst 1, 1) := by decide +kernel
theorem dX11_noLine_16 : decode cX11_noLine 16 = .ok (.goto 4, 3) := by decide +kernel
theorem dX11_noLine_19 : decode cX11_noLine 19 = .ok (.iconst 0, 1) := by decide +kernel
theorem dX11_noLine_20 : decode cX11_noLine 20 = .ok (.ireturn, 1) := by decide +kernel
theorem dX11_plug_0 : decode cX11_plug 0 = .ok (.aload_n 0, 1) := by decide +kernel
theorem dX11_plug_1 : decode cX11_plug 1 = .ok (.iload_n 1, 1) := by decide +kernel
theorem dX11_plug_2 : decode cX11_plug 2 = .ok (.invokevirtual 167, 3) := by decide +kernel
theorem dX11_plug_5 : decode cX11_plug 5 = .ok (.ifCond .ne 11, 3) := by decide +kernel
theorem dX11_plug_8 : decode cX11_plug 8 = .ok (.aload_n 0, 1) := by decide +kernel
theorem dX11_plug_9 : decode cX11_plug 9 = .ok (.iload_n 2, 1) := by decide +kernel
theorem dX11_plug_10 : decode cX11_plug 10 = .ok (.invokevirtual 180, 3) := by decide +kernel
theorem dX11_plug_13 : decode cX11_plug 13 = .ok (.ifCond .eq 6, 3) := by decide +kernel
theorem dX11_plug_16 : decode cX11_plug 16 = .ok (.ldc 77, 2) := by decide +kernel
theorem dX11_plug_18 : decode cX11_plug 18 = .ok (.ireturn, 1) := by decide +kernel
theorem dX11_plug_19 : decode cX11_plug 19 = .ok (.aload_n 0, 1) := by decide +kernel
theorem dX11_plug_20 : decode cX11_plug 20 = .ok (.getfield 65, 3) := by decide +kernel
theorem dX11_plug_23 : decode cX11_plug 23 = .ok (.getfield 183, 3) := by decide +kernel
theorem dX11_plug_26 : decode cX11_plug 26 = .ok (.iload_n 1, 1) := by decide +kernel
theorem dX11_plug_27 : decode cX11_plug 27 = .ok (.iaload, 1) := by decide +kernel
theorem dX11_plug_28 : decode cX11_plug 28 = .ok (.istore_n 3, 1) := by decide +kernel
theorem dX11_plug_29 : decode cX11_plug 29 = .ok (.iload_n 3, 1) := by decide +kernel
theorem dX11_plug_30 : decode cX11_plug 30 = .ok (.iload_n 2, 1) := by decide +kernel
theorem dX11_plug_31 : decode cX11_plug 31 = .ok (.if_icmp .ne 6, 3) := by decide +kernel
theorem dX11_plug_34 : decode cX11_plug 34 = .ok (.ldc 153, 2) := by decide +kernel
theorem dX11_plug_36 : decode cX11_plug 36 = .ok (.ireturn, 1) := by decide +kernel
theorem dX11_plug_37 : decode cX11_plug 37 = .ok (.aload_n 0, 1) := by decide +kernel
theorem dX11_plug_38 : decode cX11_plug 38 = .ok (.invokevirtual 157, 3) := by decide +kernel
theorem dX11_plug_41 : decode cX11_plug 41 = .ok (.aload_n 0, 1) := by decide +kernel
theorem dX11_plug_42 : decode cX11_plug 42 = .ok (.getfield 65, 3) := by decide +kernel
theorem dX11_plug_45 : decode cX11_plug 45 = .ok (.getfield 183, 3) := by decide +kernel
theorem dX11_plug_48 : decode cX11_plug 48 = .ok (.iload_n 1, 1) := by decide +kernel
theorem dX11_plug_49 : decode cX11_plug 49 = .ok (.iload_n 2, 1) := by decide +kernel
theorem dX11_plug_50 : decode cX11_plug 50 = .ok (.iastore, 1) := by decide +kernel
theorem dX11_plug_51 : decode cX11_plug 51 = .ok (.iload_n 3, 1) := by decide +kernel
theorem dX11_plug_52 : decode cX11_plug 52 = .ok (.ireturn, 1) := by decide +kernel
theorem dX11_mend_0 : decode cX11_mend 0 = .ok (.aload_n 0, 1) := by decide +kernel
theorem dX11_mend_1 : decode cX11_mend 1 = .ok (.iload_n 1, 1) := by decide +kernel
theorem dX11_mend_2 : decode cX11_mend 2 = .ok (.invokevirtual 180, 3) := by decide +kernel
theorem dX11_mend_5 : decode cX11_mend 5 = .ok (.ifCond .eq 6, 3) := by decide +kernel
theorem dX11_mend_8 : decode cX11_mend 8 = .ok (.ldc 77, 2) := by decide +kernel
theorem dX11_mend_10 : decode cX11_mend 10 = .ok (.ireturn, 1) := by decide +kernel
theorem dX11_mend_11 : decode cX11_mend 11 = .ok (.aload_n 0, 1) := by decide +kernel
theorem dX11_mend_12 : decode cX11_mend 12 = .ok (.getfield 65, 3) := by decide +kernel
theorem dX11_mend_15 : decode cX11_mend 15 = .ok (.iload_n 1, 1) := by decide +kernel
theorem dX11_mend_16 : decode cX11_mend 16 = .ok (.invokevirtual 186, 3) := by decide +kernel
theorem dX11_mend_19 : decode cX11_mend 19 = .ok (.ifCond .ne 6, 3) := by decide +kernel
theorem dX11_mend_22 : decode cX11_mend 22 = .ok (.ldc 153, 2) := by decide +kernel
theorem dX11_mend_24 : decode cX11_mend 24 = .ok (.ireturn, 1) := by decide +kernel
theorem dX11_mend_25 : decode cX11_mend 25 = .ok (.aload_n 0, 1) := by decide +kernel
theorem dX11_mend_26 : decode cX11_mend 26 = .ok (.invokevirtual 157, 3) := by decide +kernel
theorem dX11_mend_29 : decode cX11_mend 29 = .ok (.aload_n 0, 1) := by decide +kernel
theorem dX11_mend_30 : decode cX11_mend 30 = .ok (.getfield 65, 3) := by decide +kernel
theorem dX11_mend_33 : decode cX11_mend 33 = .ok (.iload_n 1, 1) := by decide +kernel
theorem dX11_mend_34 : decode cX11_mend 34 = .ok (.invokevirtual 189, 3) := by decide +kernel
theorem dX11_mend_37 : decode cX11_mend 37 = .ok (.aload_n 0, 1) := by decide +kernel
theorem dX11_mend_38 : decode cX11_mend 38 = .ok (.getfield 65, 3) := by decide +kernel
theorem dX11_mend_41 : decode cX11_mend 41 = .ok (.invokevirtual 192, 3) := by decide +kernel
theorem dX11_mend_44 : decode cX11_mend 44 = .ok (.ireturn, 1) := by decide +kernel
theorem dX11_mains_0 : decode cX11_mains 0 = .ok (.aload_n 0, 1) := by decide +kernel
theorem dX11_mains_1 : decode cX11_mains 1 = .ok (.invokevirtual 150, 3) := by decide +kernel
theorem dX11_mains_4 : decode cX11_mains 4 = .ok (.ifCond .ne 13, 3) := by decide +kernel
theorem dX11_mains_7 : decode cX11_mains 7 = .ok (.aload_n 0, 1) := by decide +kernel
theorem dX11_mains_8 : decode cX11_mains 8 = .ok (.getfield 65, 3) := by decide +kernel
theorem dX11_mains_11 : decode cX11_mains 11 = .ok (.getfield 195, 3) := by decide +kernel
theorem dX11_mains_14 : decode cX11_mains 14 = .ok (.ifCond .eq 6, 3) := by decide +kernel
theorem dX11_mains_17 : decode cX11_mains 17 = .ok (.ldc 153, 2) := by decide +kernel
theorem dX11_mains_19 : decode cX11_mains 19 = .ok (.ireturn, 1) := by decide +kernel
theorem dX11_mains_20 : decode cX11_mains 20 = .ok (.aload_n 0, 1) := by decide +kernel
theorem dX11_mains_21 : decode cX11_mains 21 = .ok (.invokevirtual 157, 3) := by decide +kernel
theorem dX11_mains_24 : decode cX11_mains 24 = .ok (.aload_n 0, 1) := by decide +kernel
theorem dX11_mains_25 : decode cX11_mains 25 = .ok (.getfield 65, 3) := by decide +kernel
theorem dX11_mains_28 : decode cX11_mains 28 = .ok (.iconst 1, 1) := by decide +kernel
theorem dX11_mains_29 : decode cX11_mains 29 = .ok (.putfield 195, 3) := by decide +kernel
theorem dX11_mains_32 : decode cX11_mains 32 = .ok (.aload_n 0, 1) := by decide +kernel
theorem dX11_mains_33 : decode cX11_mains 33 = .ok (.getfield 65, 3) := by decide +kernel
theorem dX11_mains_36 : decode cX11_mains 36 = .ok (.invokevirtual 163, 3) := by decide +kernel
theorem dX11_mains_39 : decode cX11_mains 39 = .ok (.ireturn, 1) := by decide +kernel
theorem dX11_rate_0 : decode cX11_rate 0 = .ok (.aload_n 0, 1) := by decide +kernel
theorem dX11_rate_1 : decode cX11_rate 1 = .ok (.iload_n 1, 1) := by decide +kernel
theorem dX11_rate_2 : decode cX11_rate 2 = .ok (.invokevirtual 180, 3) := by decide +kernel
theorem dX11_rate_5 : decode cX11_rate 5 = .ok (.ifCond .ne 14, 3) := by decide +kernel
theorem dX11_rate_8 : decode cX11_rate 8 = .ok (.iload_n 2, 1) := by decide +kernel
theorem dX11_rate_9 : decode cX11_rate 9 = .ok (.iconst 1, 1) := by decide +kernel
theorem dX11_rate_10 : decode cX11_rate 10 = .ok (.if_icmp .lt 9, 3) := by decide +kernel
theorem dX11_rate_13 : decode cX11_rate 13 = .ok (.iload_n 2, 1) := by decide +kernel
theorem dX11_rate_14 : decode cX11_rate 14 = .ok (.bipush 20, 2) := by decide +kernel
theorem dX11_rate_16 : decode cX11_rate 16 = .ok (.if_icmp .le 6, 3) := by decide +kernel
theorem dX11_rate_19 : decode cX11_rate 19 = .ok (.ldc 77, 2) := by decide +kernel
theorem dX11_rate_21 : decode cX11_rate 21 = .ok (.ireturn, 1) := by decide +kernel
theorem dX11_rate_22 : decode cX11_rate 22 = .ok (.aload_n 0, 1) := by decide +kernel
theorem dX11_rate_23 : decode cX11_rate 23 = .ok (.getfield 65, 3) := by decide +kernel
theorem dX11_rate_26 : decode cX11_rate 26 = .ok (.getfield 199, 3) := by decide +kernel
theorem dX11_rate_29 : decode cX11_rate 29 = .ok (.iload_n 1, 1) := by decide +kernel
theorem dX11_rate_30 : decode cX11_rate 30 = .ok (.iaload, 1) := by decide +kernel
theorem dX11_rate_31 : decode cX11_rate 31 = .ok (.istore_n 3, 1) := by decide +kernel
theorem dX11_rate_32 : decode cX11_rate 32 = .ok (.aload_n 0, 1) := by decide +kernel
theorem dX11_rate_33 : decode cX11_rate 33 = .ok (.invokevirtual 157, 3) := by decide +kernel
theorem dX11_rate_36 : decode cX11_rate 36 = .ok (.aload_n 0, 1) := by decide +kernel
theorem dX11_rate_37 : decode cX11_rate 37 = .ok (.getfield 65, 3) := by decide +kernel
theorem dX11_rate_40 : decode cX11_rate 40 = .ok (.getfield 199, 3) := by decide +kernel
theorem dX11_rate_43 : decode cX11_rate 43 = .ok (.iload_n 1, 1) := by decide +kernel
theorem dX11_rate_44 : decode cX11_rate 44 = .ok (.iload_n 2, 1) := by decide +kernel
theorem dX11_rate_45 : decode cX11_rate 45 = .ok (.iastore, 1) := by decide +kernel
theorem dX11_rate_46 : decode cX11_rate 46 = .ok (.iload_n 3, 1) := by decide +kernel
theorem dX11_rate_47 : decode cX11_rate 47 = .ok (.ireturn, 1) := by decide +kernel
theorem dX11_undo_0 : decode cX11_undo 0 = .ok (.aload_n 0, 1) := by decide +kernel
theorem dX11_undo_1 : decode cX11_undo 1 = .ok (.getfield 202, 3) := by decide +kernel
theorem dX11_undo_4 : decode cX11_undo 4 = .ok (.ifCond .gt 6, 3) := by decide +kernel
theorem dX11_undo_7 : decode cX11_undo 7 = .ok (.ldc 153, 2) := by decide +kernel
theorem dX11_undo_9 : decode cX11_undo 9 = .ok (.ireturn, 1) := by decide +kernel
theorem dX11_undo_10 : decode cX11_undo 10 = .ok (.aload_n 0, 1) := by decide +kernel
theorem dX11_undo_11 : decode cX11_undo 11 = .ok (.dup, 1) := by decide +kernel
theorem dX11_undo_12 : decode cX11_undo 12 = .ok (.getfield 202, 3) := by decide +kernel
theorem dX11_undo_15 : decode cX11_undo 15 = .ok (.iconst 1, 1) := by decide +kernel
theorem dX11_undo_16 : decode cX11_undo 16 = .ok (.isub, 1) := by decide +kernel
theorem dX11_undo_17 : decode cX11_undo 17 = .ok (.putfield 202, 3) := by decide +kernel
theorem dX11_undo_20 : decode cX11_undo 20 = .ok (.aload_n 0, 1) := by decide +kernel
theorem dX11_undo_21 : decode cX11_undo 21 = .ok (.getfield 65, 3) := by decide +kernel
theorem dX11_undo_24 : decode cX11_undo 24 = .ok (.aload_n 0, 1) := by decide +kernel
theorem dX11_undo_25 : decode cX11_undo 25 = .ok (.getfield 28, 3) := by decide +kernel
theorem dX11_undo_28 : decode cX11_undo 28 = .ok (.aload_n 0, 1) := by decide +kernel
theorem dX11_undo_29 : decode cX11_undo 29 = .ok (.getfield 205, 3) := by decide +kernel
theorem dX11_undo_32 : decode cX11_undo 32 = .ok (.aload_n 0, 1) := by decide +kernel
theorem dX11_undo_33 : decode cX11_undo 33 = .ok (.getfield 202, 3) := by decide +kernel
theorem dX11_undo_36 : decode cX11_undo 36 = .ok (.iadd, 1) := by decide +kernel
theorem dX11_undo_37 : decode cX11_undo 37 = .ok (.bipush 24, 2) := by decide +kernel
theorem dX11_undo_39 : decode cX11_undo 39 = .ok (.irem, 1) := by decide +kernel
theorem dX11_undo_40 : decode cX11_undo 40 = .ok (.aaload, 1) := by decide +kernel
theorem dX11_undo_41 : decode cX11_undo 41 = .ok (.invokevirtual 140, 3) := by decide +kernel
theorem dX11_undo_44 : decode cX11_undo 44 = .ok (.aload_n 0, 1) := by decide +kernel
theorem dX11_undo_45 : decode cX11_undo 45 = .ok (.getfield 202, 3) := by decide +kernel
theorem dX11_undo_48 : decode cX11_undo 48 = .ok (.ireturn, 1) := by decide +kernel
theorem dX11_line_0 : decode cX11_line 0 = .ok (.aload_n 0, 1) := by decide +kernel
theorem dX11_line_1 : decode cX11_line 1 = .ok (.iload_n 1, 1) := by decide +kernel
theorem dX11_line_2 : decode cX11_line 2 = .ok (.invokevirtual 180, 3) := by decide +kernel
theorem dX11_line_5 : decode cX11_line 5 = .ok (.ifCond .eq 6, 3) := by decide +kernel
theorem dX11_line_8 : decode cX11_line 8 = .ok (.ldc 77, 2) := by decide +kernel
theorem dX11_line_10 : decode cX11_line 10 = .ok (.ireturn, 1) := by decide +kernel
theorem dX11_line_11 : decode cX11_line 11 = .ok (.iload_n 2, 1) := by decide +kernel
theorem dX11_line_12 : decode cX11_line 12 = .ok (.tableswitch 105 0 5 #[40, 50, 60, 70, 87, 96], 40) := by decide +kernel
theorem dX11_line_52 : decode cX11_line 52 = .ok (.aload_n 0, 1) := by decide +kernel
theorem dX11_line_53 : decode cX11_line 53 = .ok (.getfield 65, 3) := by decide +kernel
theorem dX11_line_56 : decode cX11_line 56 = .ok (.getfield 199, 3) := by decide +kernel
theorem dX11_line_59 : decode cX11_line 59 = .ok (.iload_n 1, 1) := by decide +kernel
theorem dX11_line_60 : decode cX11_line 60 = .ok (.iaload, 1) := by decide +kernel
theorem dX11_line_61 : decode cX11_line 61 = .ok (.ireturn, 1) := by decide +kernel
theorem dX11_line_62 : decode cX11_line 62 = .ok (.aload_n 0, 1) := by decide +kernel
theorem dX11_line_63 : decode cX11_line 63 = .ok (.getfield 65, 3) := by decide +kernel
theorem dX11_line_66 : decode cX11_line 66 = .ok (.getfield 208, 3) := by decide +kernel
theorem dX11_line_69 : decode cX11_line 69 = .ok (.iload_n 1, 1) := by decide +kernel
theorem dX11_line_70 : decode cX11_line 70 = .ok (.iaload, 1) := by decide +kernel
theorem dX11_line_71 : decode cX11_line 71 = .ok (.ireturn, 1) := by decide +kernel
theorem dX11_line_72 : decode cX11_line 72 = .ok (.aload_n 0, 1) := by decide +kernel
theorem dX11_line_73 : decode cX11_line 73 = .ok (.getfield 65, 3) := by decide +kernel
theorem dX11_line_76 : decode cX11_line 76 = .ok (.getfield 211, 3) := by decide +kernel
theorem dX11_line_79 : decode cX11_line 79 = .ok (.iload_n 1, 1) := by decide +kernel
theorem dX11_line_80 : decode cX11_line 80 = .ok (.iaload, 1) := by decide +kernel
theorem dX11_line_81 : decode cX11_line 81 = .ok (.ireturn, 1) := by decide +kernel
theorem dX11_line_82 : decode cX11_line 82 = .ok (.aload_n 0, 1) := by decide +kernel
theorem dX11_line_83 : decode cX11_line 83 = .ok (.getfield 65, 3) := by decide +kernel
theorem dX11_line_86 : decode cX11_line 86 = .ok (.iload_n 1, 1) := by decide +kernel
theorem dX11_line_87 : decode cX11_line 87 = .ok (.invokevirtual 214, 3) := by decide +kernel
theorem dX11_line_90 : decode cX11_line 90 = .ok (.ifCond .eq 7, 3) := by decide +kernel
theorem dX11_line_93 : decode cX11_line 93 = .ok (.iconst 1, 1) := by decide +kernel
theorem dX11_line_94 : decode cX11_line 94 = .ok (.goto 4, 3) := by decide +kernel
theorem dX11_line_97 : decode cX11_line 97 = .ok (.iconst 0, 1) := by decide +kernel
theorem dX11_line_98 : decode cX11_line 98 = .ok (.ireturn, 1) := by decide +kernel
theorem dX11_line_99 : decode cX11_line 99 = .ok (.aload_n 0, 1) := by decide +kernel
theorem dX11_line_100 : decode cX11_line 100 = .ok (.getfield 65, 3) := by decide +kernel
theorem dX11_line_103 : decode cX11_line 103 = .ok (.iload_n 1, 1) := by decide +kernel
theorem dX11_line_104 : decode cX11_line 104 = .ok (.invokevirtual 217, 3) := by decide +kernel
theorem dX11_line_107 : decode cX11_line 107 = .ok (.ireturn, 1) := by decide +kernel
theorem dX11_line_108 : decode cX11_line 108 = .ok (.aload_n 0, 1) := by decide +kernel
theorem dX11_line_109 : decode cX11_line 109 = .ok (.getfield 65, 3) := by decide +kernel
theorem dX11_line_112 : decode cX11_line 112 = .ok (.iload_n 1, 1) := by decide +kernel
theorem dX11_line_113 : decode cX11_line 113 = .ok (.invokevirtual 220, 3) := by decide +kernel
theorem dX11_line_116 : decode cX11_line 116 = .ok (.ireturn, 1) := by decide +kernel
theorem dX11_line_117 : decode cX11_line 117 = .ok (.ldc 77, 2) := by decide +kernel
theorem dX11_line_119 : decode cX11_line 119 = .ok (.ireturn, 1) := by decide +kernel
theorem dX11_thing_0 : decode cX11_thing 0 = .ok (.aload_n 0, 1) := by decide +kernel
theorem dX11_thing_1 : decode cX11_thing 1 = .ok (.iload_n 1, 1) := by decide +kernel
theorem dX11_thing_2 : decode cX11_thing 2 = .ok (.invokevirtual 167, 3) := by decide +kernel
theorem dX11_thing_5 : decode cX11_thing 5 = .ok (.ifCond .eq 6, 3) := by decide +kernel
theorem dX11_thing_8 : decode cX11_thing 8 = .ok (.ldc 77, 2) := by decide +kernel
theorem dX11_thing_10 : decode cX11_thing 10 = .ok (.ireturn, 1) := by decide +kernel
theorem dX11_thing_11 : decode cX11_thing 11 = .ok (.iload_n 2, 1) := by decide +kernel
theorem dX11_thing_12 : decode cX11_thing 12 = .ok (.tableswitch 86 0 3 #[32, 42, 52, 69], 32) := by decide +kernel
theorem dX11_thing_44 : decode cX11_thing 44 = .ok (.aload_n 0, 1) := by decide +kernel
theorem dX11_thing_45 : decode cX11_thing 45 = .ok (.getfield 65, 3) := by decide +kernel
theorem dX11_thing_48 : decode cX11_thing 48 = .ok (.getfield 183, 3) := by decide +kernel
theorem dX11_thing_51 : decode cX11_thing 51 = .ok (.iload_n 1, 1) := by decide +kernel
theorem dX11_thing_52 : decode cX11_thing 52 = .ok (.iaload, 1) := by decide +kernel
theorem dX11_thing_53 : decode cX11_thing 53 = .ok (.ireturn, 1) := by decide +kernel
theorem dX11_thing_54 : decode cX11_thing 54 = .ok (.aload_n 0, 1) := by decide +kernel
theorem dX11_thing_55 : decode cX11_thing 55 = .ok (.getfield 65, 3) := by decide +kernel
theorem dX11_thing_58 : decode cX11_thing 58 = .ok (.getfield 223, 3) := by decide +kernel
theorem dX11_thing_61 : decode cX11_thing 61 = .ok (.iload_n 1, 1) := by decide +kernel
theorem dX11_thing_62 : decode cX11_thing 62 = .ok (.iaload, 1) := by decide +kernel
theorem dX11_thing_63 : decode cX11_thing 63 = .ok (.ireturn, 1) := by decide +kernel
theorem dX11_thing_64 : decode cX11_thing 64 = .ok (.aload_n 0, 1) := by decide +kernel
theorem dX11_thing_65 : decode cX11_thing 65 = .ok (.getfield 65, 3) := by decide +kernel
theorem dX11_thing_68 : decode cX11_thing 68 = .ok (.iload_n 1, 1) := by decide +kernel
theorem dX11_thing_69 : decode cX11_thing 69 = .ok (.invokevirtual 170, 3) := by decide +kernel
theorem dX11_thing_72 : decode cX11_thing 72 = .ok (.ifCond .eq 7, 3) := by decide +kernel
theorem dX11_thing_75 : decode cX11_thing 75 = .ok (.iconst 1, 1) := by decide +kernel
theorem dX11_thing_76 : decode cX11_thing 76 = .ok (.goto 4, 3) := by decide +kernel
theorem dX11_thing_79 : decode cX11_thing 79 = .ok (.iconst 0, 1) := by decide +kernel
theorem dX11_thing_80 : decode cX11_thing 80 = .ok (.ireturn, 1) := by decide +kernel
theorem dX11_thing_81 : decode cX11_thing 81 = .ok (.aload_n 0, 1) := by decide +kernel
theorem dX11_thing_82 : decode cX11_thing 82 = .ok (.getfield 65, 3) := by decide +kernel
theorem dX11_thing_85 : decode cX11_thing 85 = .ok (.iload_n 1, 1) := by decide +kernel
theorem dX11_thing_86 : decode cX11_thing 86 = .ok (.invokevirtual 226, 3) := by decide +kernel
theorem dX11_thing_89 : decode cX11_thing 89 = .ok (.ifCond .eq 7, 3) := by decide +kernel
theorem dX11_thing_92 : decode cX11_thing 92 = .ok (.iconst 1, 1) := by decide +kernel
theorem dX11_thing_93 : decode cX11_thing 93 = .ok (.goto 4, 3) := by decide +kernel
theorem dX11_thing_96 : decode cX11_thing 96 = .ok (.iconst 0, 1) := by decide +kernel
theorem dX11_thing_97 : decode cX11_thing 97 = .ok (.ireturn, 1) := by decide +kernel
theorem dX11_thing_98 : decode cX11_thing 98 = .ok (.ldc 77, 2) := by decide +kernel
theorem dX11_thing_100 : decode cX11_thing 100 = .ok (.ireturn, 1) := by decide +kernel
theorem dX11_foretell_0 : decode cX11_foretell 0 = .ok (.aload_n 0, 1) := by decide +kernel
theorem dX11_foretell_1 : decode cX11_foretell 1 = .ok (.getfield 69, 3) := by decide +kernel
theorem dX11_foretell_4 : decode cX11_foretell 4 = .ok (.aload_n 0, 1) := by decide +kernel
theorem dX11_foretell_5 : decode cX11_foretell 5 = .ok (.getfield 65, 3) := by decide +kernel
theorem dX11_foretell_8 : decode cX11_foretell 8 = .ok (.invokevirtual 140, 3) := by decide +kernel
theorem dX11_foretell_11 : decode cX11_foretell 11 = .ok (.iconst 0, 1) := by decide +kernel
theorem dX11_foretell_12 : decode cX11_foretell 12 = .ok (.istore_n 2, 1) := by decide +kernel
theorem dX11_foretell_13 : decode cX11_foretell 13 = .ok (.iload_n 2, 1) := by decide +kernel
theorem dX11_foretell_14 : decode cX11_foretell 14 = .ok (.iload_n 1, 1) := by decide +kernel
theorem dX11_foretell_15 : decode cX11_foretell 15 = .ok (.if_icmp .ge 16, 3) := by decide +kernel
theorem dX11_foretell_18 : decode cX11_foretell 18 = .ok (.aload_n 0, 1) := by decide +kernel
theorem dX11_foretell_19 : decode cX11_foretell 19 = .ok (.getfield 69, 3) := by decide +kernel
theorem dX11_foretell_22 : decode cX11_foretell 22 = .ok (.invokevirtual 160, 3) := by decide +kernel
theorem dX11_foretell_25 : decode cX11_foretell 25 = .ok (.iinc 2 1, 3) := by decide +kernel
theorem dX11_foretell_28 : decode cX11_foretell 28 = .ok (.goto (-15), 3) := by decide +kernel
theorem dX11_foretell_31 : decode cX11_foretell 31 = .ok (.return_, 1) := by decide +kernel
theorem dX11_heat_0 : decode cX11_heat 0 = .ok (.aload_n 0, 1) := by decide +kernel
theorem dX11_heat_1 : decode cX11_heat 1 = .ok (.iload_n 1, 1) := by decide +kernel
theorem dX11_heat_2 : decode cX11_heat 2 = .ok (.invokevirtual 180, 3) := by decide +kernel
theorem dX11_heat_5 : decode cX11_heat 5 = .ok (.ifCond .ne 13, 3) := by decide +kernel
theorem dX11_heat_8 : decode cX11_heat 8 = .ok (.iload_n 2, 1) := by decide +kernel
theorem dX11_heat_9 : decode cX11_heat 9 = .ok (.ifCond .lt 9, 3) := by decide +kernel
theorem dX11_heat_12 : decode cX11_heat 12 = .ok (.iload_n 2, 1) := by decide +kernel
theorem dX11_heat_13 : decode cX11_heat 13 = .ok (.bipush 60, 2) := by decide +kernel
theorem dX11_heat_15 : decode cX11_heat 15 = .ok (.if_icmp .le 6, 3) := by decide +kernel
theorem dX11_heat_18 : decode cX11_heat 18 = .ok (.ldc 77, 2) := by decide +kernel
theorem dX11_heat_20 : decode cX11_heat 20 = .ok (.ireturn, 1) := by decide +kernel
theorem dX11_heat_21 : decode cX11_heat 21 = .ok (.aload_n 0, 1) := by decide +kernel
theorem dX11_heat_22 : decode cX11_heat 22 = .ok (.iload_n 2, 1) := by decide +kernel
theorem dX11_heat_23 : decode cX11_heat 23 = .ok (.invokevirtual 232, 3) := by decide +kernel
theorem dX11_heat_26 : decode cX11_heat 26 = .ok (.aload_n 0, 1) := by decide +kernel
theorem dX11_heat_27 : decode cX11_heat 27 = .ok (.getfield 69, 3) := by decide +kernel
theorem dX11_heat_30 : decode cX11_heat 30 = .ok (.getfield 208, 3) := by decide +kernel
theorem dX11_heat_33 : decode cX11_heat 33 = .ok (.iload_n 1, 1) := by decide +kernel
theorem dX11_heat_34 : decode cX11_heat 34 = .ok (.iaload, 1) := by decide +kernel
theorem dX11_heat_35 : decode cX11_heat 35 = .ok (.ireturn, 1) := by decide +kernel
theorem dX11_later_0 : decode cX11_later 0 = .ok (.aload_n 0, 1) := by decide +kernel
theorem dX11_later_1 : decode cX11_later 1 = .ok (.invokevirtual 150, 3) := by decide +kernel
theorem dX11_later_4 : decode cX11_later 4 = .ok (.ifCond .eq 6, 3) := by decide +kernel
theorem dX11_later_7 : decode cX11_later 7 = .ok (.ldc 153, 2) := by decide +kernel
theorem dX11_later_9 : decode cX11_later 9 = .ok (.ireturn, 1) := by decide +kernel
theorem dX11_later_10 : decode cX11_later 10 = .ok (.iload_n 1, 1) := by decide +kernel
theorem dX11_later_11 : decode cX11_later 11 = .ok (.ifCond .lt 18, 3) := by decide +kernel
theorem dX11_later_14 : decode cX11_later 14 = .ok (.iload_n 1, 1) := by decide +kernel
theorem dX11_later_15 : decode cX11_later 15 = .ok (.bipush 60, 2) := by decide +kernel
theorem dX11_later_17 : decode cX11_later 17 = .ok (.if_icmp .gt 12, 3) := by decide +kernel
theorem dX11_later_20 : decode cX11_later 20 = .ok (.iload_n 2, 1) := by decide +kernel
theorem dX11_later_21 : decode cX11_later 21 = .ok (.ifCond .lt 8, 3) := by decide +kernel
theorem dX11_later_24 : decode cX11_later 24 = .ok (.iload_n 2, 1) := by decide +kernel
theorem dX11_later_25 : decode cX11_later 25 = .ok (.iconst 2, 1) := by decide +kernel
theorem dX11_later_26 : decode cX11_later 26 = .ok (.if_icmp .le 6, 3) := by decide +kernel
theorem dX11_later_29 : decode cX11_later 29 = .ok (.ldc 77, 2) := by decide +kernel
theorem dX11_later_31 : decode cX11_later 31 = .ok (.ireturn, 1) := by decide +kernel
theorem dX11_later_32 : decode cX11_later 32 = .ok (.aload_n 0, 1) := by decide +kernel
theorem dX11_later_33 : decode cX11_later 33 = .ok (.iload_n 1, 1) := by decide +kernel
theorem dX11_later_34 : decode cX11_later 34 = .ok (.invokevirtual 232, 3) := by decide +kernel
theorem dX11_later_37 : decode cX11_later 37 = .ok (.iload_n 2, 1) := by decide +kernel
theorem dX11_later_38 : decode cX11_later 38 = .ok (.lookupswitch 42 #[(0, 26), (1, 34)], 26) := by decide +kernel
theorem dX11_later_64 : decode cX11_later 64 = .ok (.aload_n 0, 1) := by decide +kernel
theorem dX11_later_65 : decode cX11_later 65 = .ok (.getfield 69, 3) := by decide +kernel
theorem dX11_later_68 : decode cX11_later 68 = .ok (.invokevirtual 163, 3) := by decide +kernel
theorem dX11_later_71 : decode cX11_later 71 = .ok (.ireturn, 1) := by decide +kernel
theorem dX11_later_72 : decode cX11_later 72 = .ok (.aload_n 0, 1) := by decide +kernel
theorem dX11_later_73 : decode cX11_later 73 = .ok (.getfield 69, 3) := by decide +kernel
theorem dX11_later_76 : decode cX11_later 76 = .ok (.invokevirtual 177, 3) := by decide +kernel
theorem dX11_later_79 : decode cX11_later 79 = .ok (.ireturn, 1) := by decide +kernel
theorem dX11_later_80 : decode cX11_later 80 = .ok (.aload_n 0, 1) := by decide +kernel
theorem dX11_later_81 : decode cX11_later 81 = .ok (.getfield 69, 3) := by decide +kernel
theorem dX11_later_84 : decode cX11_later 84 = .ok (.getfield 235, 3) := by decide +kernel
theorem dX11_later_87 : decode cX11_later 87 = .ok (.ireturn, 1) := by decide +kernel
theorem dX11_lost_0 : decode cX11_lost 0 = .ok (.aload_n 0, 1) := by decide +kernel
theorem dX11_lost_1 : decode cX11_lost 1 = .ok (.iload_n 1, 1) := by decide +kernel
theorem dX11_lost_2 : decode cX11_lost 2 = .ok (.invokevirtual 180, 3) := by decide +kernel
theorem dX11_lost_5 : decode cX11_lost 5 = .ok (.ifCond .eq 6, 3) := by decide +kernel
theorem dX11_lost_8 : decode cX11_lost 8 = .ok (.ldc 77, 2) := by decide +kernel
theorem dX11_lost_10 : decode cX11_lost 10 = .ok (.ireturn, 1) := by decide +kernel
theorem dX11_lost_11 : decode cX11_lost 11 = .ok (.aload_n 0, 1) := by decide +kernel
theorem dX11_lost_12 : decode cX11_lost 12 = .ok (.getfield 69, 3) := by decide +kernel
theorem dX11_lost_15 : decode cX11_lost 15 = .ok (.aload_n 0, 1) := by decide +kernel
theorem dX11_lost_16 : decode cX11_lost 16 = .ok (.getfield 65, 3) := by decide +kernel
theorem dX11_lost_19 : decode cX11_lost 19 = .ok (.invokevirtual 140, 3) := by decide +kernel
theorem dX11_lost_22 : decode cX11_lost 22 = .ok (.iconst 0, 1) := by decide +kernel
theorem dX11_lost_23 : decode cX11_lost 23 = .ok (.istore_n 2, 1) := by decide +kernel
theorem dX11_lost_24 : decode cX11_lost 24 = .ok (.iload_n 2, 1) := by decide +kernel
theorem dX11_lost_25 : decode cX11_lost 25 = .ok (.bipush 60, 2) := by decide +kernel
theorem dX11_lost_27 : decode cX11_lost 27 = .ok (.if_icmp .gt 29, 3) := by decide +kernel
theorem dX11_lost_30 : decode cX11_lost 30 = .ok (.aload_n 0, 1) := by decide +kernel
theorem dX11_lost_31 : decode cX11_lost 31 = .ok (.getfield 69, 3) := by decide +kernel
theorem dX11_lost_34 : decode cX11_lost 34 = .ok (.iload_n 1, 1) := by decide +kernel
theorem dX11_lost_35 : decode cX11_lost 35 = .ok (.invokevirtual 214, 3) := by decide +kernel
theorem dX11_lost_38 : decode cX11_lost 38 = .ok (.ifCond .ne 5, 3) := by decide +kernel
theorem dX11_lost_41 : decode cX11_lost 41 = .ok (.iload_n 2, 1) := by decide +kernel
theorem dX11_lost_42 : decode cX11_lost 42 = .ok (.ireturn, 1) := by decide +kernel
theorem dX11_lost_43 : decode cX11_lost 43 = .ok (.aload_n 0, 1) := by decide +kernel
theorem dX11_lost_44 : decode cX11_lost 44 = .ok (.getfield 69, 3) := by decide +kernel
theorem dX11_lost_47 : decode cX11_lost 47 = .ok (.invokevirtual 160, 3) := by decide +kernel
theorem dX11_lost_50 : decode cX11_lost 50 = .ok (.iinc 2 1, 3) := by decide +kernel
theorem dX11_lost_53 : decode cX11_lost 53 = .ok (.goto (-29), 3) := by decide +kernel
theorem dX11_lost_56 : decode cX11_lost 56 = .ok (.ldc 238, 2) := by decide +kernel
theorem dX11_lost_58 : decode cX11_lost 58 = .ok (.ireturn, 1) := by decide +kernel
theorem dX11_dark_0 : decode cX11_dark 0 = .ok (.aload_n 0, 1) := by decide +kernel
theorem dX11_dark_1 : decode cX11_dark 1 = .ok (.invokevirtual 150, 3) := by decide +kernel
theorem dX11_dark_4 : decode cX11_dark 4 = .ok (.ifCond .eq 6, 3) := by decide +kernel
theorem dX11_dark_7 : decode cX11_dark 7 = .ok (.ldc 153, 2) := by decide +kernel
theorem dX11_dark_9 : decode cX11_dark 9 = .ok (.ireturn, 1) := by decide +kernel
theorem dX11_dark_10 : decode cX11_dark 10 = .ok (.aload_n 0, 1) := by decide +kernel
theorem dX11_dark_11 : decode cX11_dark 11 = .ok (.getfield 69, 3) := by decide +kernel
theorem dX11_dark_14 : decode cX11_dark 14 = .ok (.aload_n 0, 1) := by decide +kernel
theorem dX11_dark_15 : decode cX11_dark 15 = .ok (.getfield 65, 3) := by decide +kernel
theorem dX11_dark_18 : decode cX11_dark 18 = .ok (.invokevirtual 140, 3) := by decide +kernel
theorem dX11_dark_21 : decode cX11_dark 21 = .ok (.iconst 0, 1) := by decide +kernel
theorem dX11_dark_22 : decode cX11_dark 22 = .ok (.istore_n 1, 1) := by decide +kernel
theorem dX11_dark_23 : decode cX11_dark 23 = .ok (.iload_n 1, 1) := by decide +kernel
theorem dX11_dark_24 : decode cX11_dark 24 = .ok (.bipush 60, 2) := by decide +kernel
theorem dX11_dark_26 : decode cX11_dark 26 = .ok (.if_icmp .gt 28, 3) := by decide +kernel
theorem dX11_dark_29 : decode cX11_dark 29 = .ok (.aload_n 0, 1) := by decide +kernel
theorem dX11_dark_30 : decode cX11_dark 30 = .ok (.getfield 69, 3) := by decide +kernel
theorem dX11_dark_33 : decode cX11_dark 33 = .ok (.invokevirtual 177, 3) := by decide +kernel
theorem dX11_dark_36 : decode cX11_dark 36 = .ok (.ifCond .ne 5, 3) := by decide +kernel
theorem dX11_dark_39 : decode cX11_dark 39 = .ok (.iload_n 1, 1) := by decide +kernel
theorem dX11_dark_40 : decode cX11_dark 40 = .ok (.ireturn, 1) := by decide +kernel
theorem dX11_dark_41 : decode cX11_dark 41 = .ok (.aload_n 0, 1) := by decide +kernel
theorem dX11_dark_42 : decode cX11_dark 42 = .ok (.getfield 69, 3) := by decide +kernel
theorem dX11_dark_45 : decode cX11_dark 45 = .ok (.invokevirtual 160, 3) := by decide +kernel
theorem dX11_dark_48 : decode cX11_dark 48 = .ok (.iinc 1 1, 3) := by decide +kernel
theorem dX11_dark_51 : decode cX11_dark 51 = .ok (.goto (-28), 3) := by decide +kernel
theorem dX11_dark_54 : decode cX11_dark 54 = .ok (.ldc 238, 2) := by decide +kernel
theorem dX11_dark_56 : decode cX11_dark 56 = .ok (.ireturn, 1) := by decide +kernel
theorem dX11_runsWithout_0 : decode cX11_runsWithout 0 = .ok (.aload_n 0, 1) := by decide +kernel
theorem dX11_runsWithout_1 : decode cX11_runsWithout 1 = .ok (.getfield 69, 3) := by decide +kernel
theorem dX11_runsWithout_4 : decode cX11_runsWithout 4 = .ok (.aload_n 0, 1) := by decide +kernel
theorem dX11_runsWithout_5 : decode cX11_runsWithout 5 = .ok (.getfield 65, 3) := by decide +kernel
theorem dX11_runsWithout_8 : decode cX11_runsWithout 8 = .ok (.invokevirtual 140, 3) := by decide +kernel
theorem dX11_runsWithout_11 : decode cX11_runsWithout 11 = .ok (.aload_n 0, 1) := by decide +kernel
theorem dX11_runsWithout_12 : decode cX11_runsWithout 12 = .ok (.getfield 69, 3) := by decide +kernel
theorem dX11_runsWithout_15 : decode cX11_runsWithout 15 = .ok (.dup, 1) := by decide +kernel
theorem dX11_runsWithout_16 : decode cX11_runsWithout 16 = .ok (.getfield 239, 3) := by decide +kernel
theorem dX11_runsWithout_19 : decode cX11_runsWithout 19 = .ok (.iload_n 1, 1) := by decide +kernel
theorem dX11_runsWithout_20 : decode cX11_runsWithout 20 = .ok (.iconst (-1), 1) := by decide +kernel
theorem dX11_runsWithout_21 : decode cX11_runsWithout 21 = .ok (.ixor, 1) := by decide +kernel
theorem dX11_runsWithout_22 : decode cX11_runsWithout 22 = .ok (.iand, 1) := by decide +kernel
theorem dX11_runsWithout_23 : decode cX11_runsWithout 23 = .ok (.putfield 239, 3) := by decide +kernel
theorem dX11_runsWithout_26 : decode cX11_runsWithout 26 = .ok (.iconst 0, 1) := by decide +kernel
theorem dX11_runsWithout_27 : decode cX11_runsWithout 27 = .ok (.istore 4, 2) := by decide +kernel
theorem dX11_runsWithout_29 : decode cX11_runsWithout 29 = .ok (.iload 4, 2) := by decide +kernel
theorem dX11_runsWithout_31 : decode cX11_runsWithout 31 = .ok (.iload_n 3, 1) := by decide +kernel
theorem dX11_runsWithout_32 : decode cX11_runsWithout 32 = .ok (.if_icmp .ge 29, 3) := by decide +kernel
theorem dX11_runsWithout_35 : decode cX11_runsWithout 35 = .ok (.aload_n 0, 1) := by decide +kernel
theorem dX11_runsWithout_36 : decode cX11_runsWithout 36 = .ok (.getfield 69, 3) := by decide +kernel
theorem dX11_runsWithout_39 : decode cX11_runsWithout 39 = .ok (.iload_n 2, 1) := by decide +kernel
theorem dX11_runsWithout_40 : decode cX11_runsWithout 40 = .ok (.invokevirtual 226, 3) := by decide +kernel
theorem dX11_runsWithout_43 : decode cX11_runsWithout 43 = .ok (.ifCond .ne 5, 3) := by decide +kernel
theorem dX11_runsWithout_46 : decode cX11_runsWithout 46 = .ok (.iconst 0, 1) := by decide +kernel
theorem dX11_runsWithout_47 : decode cX11_runsWithout 47 = .ok (.ireturn, 1) := by decide +kernel
theorem dX11_runsWithout_48 : decode cX11_runsWithout 48 = .ok (.aload_n 0, 1) := by decide +kernel
theorem dX11_runsWithout_49 : decode cX11_runsWithout 49 = .ok (.getfield 69, 3) := by decide +kernel
theorem dX11_runsWithout_52 : decode cX11_runsWithout 52 = .ok (.invokevirtual 160, 3) := by decide +kernel
theorem dX11_runsWithout_55 : decode cX11_runsWithout 55 = .ok (.iinc 4 1, 3) := by decide +kernel
theorem dX11_runsWithout_58 : decode cX11_runsWithout 58 = .ok (.goto (-29), 3) := by decide +kernel
theorem dX11_runsWithout_61 : decode cX11_runsWithout 61 = .ok (.aload_n 0, 1) := by decide +kernel
theorem dX11_runsWithout_62 : decode cX11_runsWithout 62 = .ok (.getfield 69, 3) := by decide +kernel
theorem dX11_runsWithout_65 : decode cX11_runsWithout 65 = .ok (.iload_n 2, 1) := by decide +kernel
theorem dX11_runsWithout_66 : decode cX11_runsWithout 66 = .ok (.invokevirtual 226, 3) := by decide +kernel
theorem dX11_runsWithout_69 : decode cX11_runsWithout 69 = .ok (.ireturn, 1) := by decide +kernel
theorem dX11_shed_0 : decode cX11_shed 0 = .ok (.aload_n 0, 1) := by decide +kernel
theorem dX11_shed_1 : decode cX11_shed 1 = .ok (.iload_n 1, 1) := by decide +kernel
theorem dX11_shed_2 : decode cX11_shed 2 = .ok (.invokevirtual 167, 3) := by decide +kernel
theorem dX11_shed_5 : decode cX11_shed 5 = .ok (.ifCond .ne 23, 3) := by decide +kernel
theorem dX11_shed_8 : decode cX11_shed 8 = .ok (.iload_n 2, 1) := by decide +kernel
theorem dX11_shed_9 : decode cX11_shed 9 = .ok (.iconst 1, 1) := by decide +kernel
theorem dX11_shed_10 : decode cX11_shed 10 = .ok (.if_icmp .lt 18, 3) := by decide +kernel
theorem dX11_shed_13 : decode cX11_shed 13 = .ok (.iload_n 2, 1) := by decide +kernel
theorem dX11_shed_14 : decode cX11_shed 14 = .ok (.bipush 30, 2) := by decide +kernel
theorem dX11_shed_16 : decode cX11_shed 16 = .ok (.if_icmp .gt 12, 3) := by decide +kernel
theorem dX11_shed_19 : decode cX11_shed 19 = .ok (.iload_n 3, 1) := by decide +kernel
theorem dX11_shed_20 : decode cX11_shed 20 = .ok (.ifCond .lt 8, 3) := by decide +kernel
theorem dX11_shed_23 : decode cX11_shed 23 = .ok (.iload_n 3, 1) := by decide +kernel
theorem dX11_shed_24 : decode cX11_shed 24 = .ok (.iconst 1, 1) := by decide +kernel
theorem dX11_shed_25 : decode cX11_shed 25 = .ok (.if_icmp .le 6, 3) := by decide +kernel
theorem dX11_shed_28 : decode cX11_shed 28 = .ok (.ldc 77, 2) := by decide +kernel
theorem dX11_shed_30 : decode cX11_shed 30 = .ok (.ireturn, 1) := by decide +kernel
theorem dX11_shed_31 : decode cX11_shed 31 = .ok (.aload_n 0, 1) := by decide +kernel
theorem dX11_shed_32 : decode cX11_shed 32 = .ok (.getfield 65, 3) := by decide +kernel
theorem dX11_shed_35 : decode cX11_shed 35 = .ok (.getfield 239, 3) := by decide +kernel
theorem dX11_shed_38 : decode cX11_shed 38 = .ok (.iconst 1, 1) := by decide +kernel
theorem dX11_shed_39 : decode cX11_shed 39 = .ok (.iload_n 1, 1) := by decide +kernel
theorem dX11_shed_40 : decode cX11_shed 40 = .ok (.ishl, 1) := by decide +kernel
theorem dX11_shed_41 : decode cX11_shed 41 = .ok (.iconst (-1), 1) := by decide +kernel
theorem dX11_shed_42 : decode cX11_shed 42 = .ok (.ixor, 1) := by decide +kernel
theorem dX11_shed_43 : decode cX11_shed 43 = .ok (.iand, 1) := by decide +kernel
theorem dX11_shed_44 : decode cX11_shed 44 = .ok (.istore 4, 2) := by decide +kernel
theorem dX11_shed_46 : decode cX11_shed 46 = .ok (.bipush 7, 2) := by decide +kernel
theorem dX11_shed_48 : decode cX11_shed 48 = .ok (.istore 5, 2) := by decide +kernel
theorem dX11_shed_50 : decode cX11_shed 50 = .ok (.iconst 0, 1) := by decide +kernel
theorem dX11_shed_51 : decode cX11_shed 51 = .ok (.istore 6, 2) := by decide +kernel
theorem dX11_shed_53 : decode cX11_shed 53 = .ok (.iconst 0, 1) := by decide +kernel
theorem dX11_shed_54 : decode cX11_shed 54 = .ok (.istore 7, 2) := by decide +kernel
theorem dX11_shed_56 : decode cX11_shed 56 = .ok (.iload 7, 2) := by decide +kernel
theorem dX11_shed_58 : decode cX11_shed 58 = .ok (.bipush 64, 2) := by decide +kernel
theorem dX11_shed_60 : decode cX11_shed 60 = .ok (.if_icmp .ge 51, 3) := by decide +kernel
theorem dX11_shed_63 : decode cX11_shed 63 = .ok (.iload 7, 2) := by decide +kernel
theorem dX11_shed_65 : decode cX11_shed 65 = .ok (.iload 4, 2) := by decide +kernel
theorem dX11_shed_67 : decode cX11_shed 67 = .ok (.iconst (-1), 1) := by decide +kernel
theorem dX11_shed_68 : decode cX11_shed 68 = .ok (.ixor, 1) := by decide +kernel
theorem dX11_shed_69 : decode cX11_shed 69 = .ok (.iand, 1) := by decide +kernel
theorem dX11_shed_70 : decode cX11_shed 70 = .ok (.ifCond .ne 35, 3) := by decide +kernel
theorem dX11_shed_73 : decode cX11_shed 73 = .ok (.iload 7, 2) := by decide +kernel
theorem dX11_shed_75 : decode cX11_shed 75 = .ok (.invokestatic 242, 3) := by decide +kernel
theorem dX11_shed_78 : decode cX11_shed 78 = .ok (.iload 5, 2) := by decide +kernel
theorem dX11_shed_80 : decode cX11_shed 80 = .ok (.if_icmp .ge 25, 3) := by decide +kernel
theorem dX11_shed_83 : decode cX11_shed 83 = .ok (.aload_n 0, 1) := by decide +kernel
theorem dX11_shed_84 : decode cX11_shed 84 = .ok (.iload 7, 2) := by decide +kernel
theorem dX11_shed_86 : decode cX11_shed 86 = .ok (.iload_n 1, 1) := by decide +kernel
theorem dX11_shed_87 : decode cX11_shed 87 = .ok (.iload_n 2, 1) := by decide +kernel
theorem dX11_shed_88 : decode cX11_shed 88 = .ok (.invokevirtual 247, 3) := by decide +kernel
theorem dX11_shed_91 : decode cX11_shed 91 = .ok (.ifCond .eq 14, 3) := by decide +kernel
theorem dX11_shed_94 : decode cX11_shed 94 = .ok (.iload 7, 2) := by decide +kernel
theorem dX11_shed_96 : decode cX11_shed 96 = .ok (.invokestatic 242, 3) := by decide +kernel
theorem dX11_shed_99 : decode cX11_shed 99 = .ok (.istore 5, 2) := by decide +kernel
theorem dX11_shed_101 : decode cX11_shed 101 = .ok (.iload 7, 2) := by decide +kernel
theorem dX11_shed_103 : decode cX11_shed 103 = .ok (.istore 6, 2) := by decide +kernel
theorem dX11_shed_105 : decode cX11_shed 105 = .ok (.iinc 7 1, 3) := by decide +kernel
theorem dX11_shed_108 : decode cX11_shed 108 = .ok (.goto (-52), 3) := by decide +kernel
theorem dX11_shed_111 : decode cX11_shed 111 = .ok (.iload 5, 2) := by decide +kernel
theorem dX11_shed_113 : decode cX11_shed 113 = .ok (.bipush 6, 2) := by decide +kernel
theorem dX11_shed_115 : decode cX11_shed 115 = .ok (.if_icmp .le 6, 3) := by decide +kernel
theorem dX11_shed_118 : decode cX11_shed 118 = .ok (.ldc 238, 2) := by decide +kernel
theorem dX11_shed_120 : decode cX11_shed 120 = .ok (.ireturn, 1) := by decide +kernel
theorem dX11_shed_121 : decode cX11_shed 121 = .ok (.iload_n 3, 1) := by decide +kernel
theorem dX11_shed_122 : decode cX11_shed 122 = .ok (.ifCond .ne 8, 3) := by decide +kernel
theorem dX11_shed_125 : decode cX11_shed 125 = .ok (.iload 5, 2) := by decide +kernel
theorem dX11_shed_127 : decode cX11_shed 127 = .ok (.goto 5, 3) := by decide +kernel
theorem dX11_shed_130 : decode cX11_shed 130 = .ok (.iload 6, 2) := by decide +kernel
theorem dX11_shed_132 : decode cX11_shed 132 = .ok (.ireturn, 1) := by decide +kernel
theorem dX11_plugs_0 : decode cX11_plugs 0 = .ok (.aload_n 0, 1) := by decide +kernel
theorem dX11_plugs_1 : decode cX11_plugs 1 = .ok (.invokevirtual 150, 3) := by decide +kernel
theorem dX11_plugs_4 : decode cX11_plugs 4 = .ok (.ifCond .eq 6, 3) := by decide +kernel
theorem dX11_plugs_7 : decode cX11_plugs 7 = .ok (.ldc 153, 2) := by decide +kernel
theorem dX11_plugs_9 : decode cX11_plugs 9 = .ok (.ireturn, 1) := by decide +kernel
theorem dX11_plugs_10 : decode cX11_plugs 10 = .ok (.iload_n 1, 1) := by decide +kernel
theorem dX11_plugs_11 : decode cX11_plugs 11 = .ok (.iconst 1, 1) := by decide +kernel
theorem dX11_plugs_12 : decode cX11_plugs 12 = .ok (.if_icmp .lt 25, 3) := by decide +kernel
theorem dX11_plugs_15 : decode cX11_plugs 15 = .ok (.iload_n 1, 1) := by decide +kernel
theorem dX11_plugs_16 : decode cX11_plugs 16 = .ok (.bipush 12, 2) := by decide +kernel
theorem dX11_plugs_18 : decode cX11_plugs 18 = .ok (.if_icmp .gt 19, 3) := by decide +kernel
theorem dX11_plugs_21 : decode cX11_plugs 21 = .ok (.iload_n 2, 1) := by decide +kernel
theorem dX11_plugs_22 : decode cX11_plugs 22 = .ok (.iconst (-1), 1) := by decide +kernel
theorem dX11_plugs_23 : decode cX11_plugs 23 = .ok (.if_icmp .lt 14, 3) := by decide +kernel
theorem dX11_plugs_26 : decode cX11_plugs 26 = .ok (.iload_n 2, 1) := by decide +kernel
theorem dX11_plugs_27 : decode cX11_plugs 27 = .ok (.aload_n 0, 1) := by decide +kernel
theorem dX11_plugs_28 : decode cX11_plugs 28 = .ok (.getfield 65, 3) := by decide +kernel
theorem dX11_plugs_31 : decode cX11_plugs 31 = .ok (.getfield 229, 3) := by decide +kernel
theorem dX11_plugs_34 : decode cX11_plugs 34 = .ok (.if_icmp .lt 6, 3) := by decide +kernel
theorem dX11_plugs_37 : decode cX11_plugs 37 = .ok (.ldc 77, 2) := by decide +kernel
theorem dX11_plugs_39 : decode cX11_plugs 39 = .ok (.ireturn, 1) := by decide +kernel
theorem dX11_plugs_40 : decode cX11_plugs 40 = .ok (.aload_n 0, 1) := by decide +kernel
theorem dX11_plugs_41 : decode cX11_plugs 41 = .ok (.getfield 69, 3) := by decide +kernel
theorem dX11_plugs_44 : decode cX11_plugs 44 = .ok (.aload_n 0, 1) := by decide +kernel
theorem dX11_plugs_45 : decode cX11_plugs 45 = .ok (.getfield 65, 3) := by decide +kernel
theorem dX11_plugs_48 : decode cX11_plugs 48 = .ok (.invokevirtual 140, 3) := by decide +kernel
theorem dX11_plugs_51 : decode cX11_plugs 51 = .ok (.aload_n 0, 1) := by decide +kernel
theorem dX11_plugs_52 : decode cX11_plugs 52 = .ok (.getfield 34, 3) := by decide +kernel
theorem dX11_plugs_55 : decode cX11_plugs 55 = .ok (.aload_n 0, 1) := by decide +kernel
theorem dX11_plugs_56 : decode cX11_plugs 56 = .ok (.getfield 69, 3) := by decide +kernel
theorem dX11_plugs_59 : decode cX11_plugs 59 = .ok (.iload_n 1, 1) := by decide +kernel
theorem dX11_plugs_60 : decode cX11_plugs 60 = .ok (.invokevirtual 251, 3) := by decide +kernel
theorem dX11_plugs_63 : decode cX11_plugs 63 = .ok (.iload_n 2, 1) := by decide +kernel
theorem dX11_plugs_64 : decode cX11_plugs 64 = .ok (.iconst (-1), 1) := by decide +kernel
theorem dX11_plugs_65 : decode cX11_plugs 65 = .ok (.if_icmp .ne 13, 3) := by decide +kernel
theorem dX11_plugs_68 : decode cX11_plugs 68 = .ok (.aload_n 0, 1) := by decide +kernel
theorem dX11_plugs_69 : decode cX11_plugs 69 = .ok (.getfield 34, 3) := by decide +kernel
theorem dX11_plugs_72 : decode cX11_plugs 72 = .ok (.getfield 255, 3) := by decide +kernel
theorem dX11_plugs_75 : decode cX11_plugs 75 = .ok (.goto 12, 3) := by decide +kernel
theorem dX11_plugs_78 : decode cX11_plugs 78 = .ok (.aload_n 0, 1) := by decide +kernel
theorem dX11_plugs_79 : decode cX11_plugs 79 = .ok (.getfield 34, 3) := by decide +kernel
theorem dX11_plugs_82 : decode cX11_plugs 82 = .ok (.getfield 258, 3) := by decide +kernel
theorem dX11_plugs_85 : decode cX11_plugs 85 = .ok (.iload_n 2, 1) := by decide +kernel
theorem dX11_plugs_86 : decode cX11_plugs 86 = .ok (.iaload, 1) := by decide +kernel
theorem dX11_plugs_87 : decode cX11_plugs 87 = .ok (.ireturn, 1) := by decide +kernel
theorem dX11_holds_0 : decode cX11_holds 0 = .ok (.aload_n 0, 1) := by decide +kernel
theorem dX11_holds_1 : decode cX11_holds 1 = .ok (.iload_n 1, 1) := by decide +kernel
theorem dX11_holds_2 : decode cX11_holds 2 = .ok (.invokevirtual 180, 3) := by decide +kernel
theorem dX11_holds_5 : decode cX11_holds 5 = .ok (.ifCond .ne 14, 3) := by decide +kernel
theorem dX11_holds_8 : decode cX11_holds 8 = .ok (.iload_n 2, 1) := by decide +kernel
theorem dX11_holds_9 : decode cX11_holds 9 = .ok (.iconst 1, 1) := by decide +kernel
theorem dX11_holds_10 : decode cX11_holds 10 = .ok (.if_icmp .lt 9, 3) := by decide +kernel
theorem dX11_holds_13 : decode cX11_holds 13 = .ok (.iload_n 2, 1) := by decide +kernel
theorem dX11_holds_14 : decode cX11_holds 14 = .ok (.bipush 30, 2) := by decide +kernel
theorem dX11_holds_16 : decode cX11_holds 16 = .ok (.if_icmp .le 6, 3) := by decide +kernel
theorem dX11_holds_19 : decode cX11_holds 19 = .ok (.ldc 77, 2) := by decide +kernel
theorem dX11_holds_21 : decode cX11_holds 21 = .ok (.ireturn, 1) := by decide +kernel
theorem dX11_holds_22 : decode cX11_holds 22 = .ok (.iconst 1, 1) := by decide +kernel
theorem dX11_holds_23 : decode cX11_holds 23 = .ok (.istore_n 3, 1) := by decide +kernel
theorem dX11_holds_24 : decode cX11_holds 24 = .ok (.iload_n 3, 1) := by decide +kernel
theorem dX11_holds_25 : decode cX11_holds 25 = .ok (.bipush 20, 2) := by decide +kernel
theorem dX11_holds_27 : decode cX11_holds 27 = .ok (.if_icmp .gt 44, 3) := by decide +kernel
theorem dX11_holds_30 : decode cX11_holds 30 = .ok (.aload_n 0, 1) := by decide +kernel
theorem dX11_holds_31 : decode cX11_holds 31 = .ok (.getfield 69, 3) := by decide +kernel
theorem dX11_holds_34 : decode cX11_holds 34 = .ok (.aload_n 0, 1) := by decide +kernel
theorem dX11_holds_35 : decode cX11_holds 35 = .ok (.getfield 65, 3) := by decide +kernel
theorem dX11_holds_38 : decode cX11_holds 38 = .ok (.invokevirtual 140, 3) := by decide +kernel
theorem dX11_holds_41 : decode cX11_holds 41 = .ok (.aload_n 0, 1) := by decide +kernel
theorem dX11_holds_42 : decode cX11_holds 42 = .ok (.getfield 69, 3) := by decide +kernel
theorem dX11_holds_45 : decode cX11_holds 45 = .ok (.getfield 199, 3) := by decide +kernel
theorem dX11_holds_48 : decode cX11_holds 48 = .ok (.iload_n 1, 1) := by decide +kernel
theorem dX11_holds_49 : decode cX11_holds 49 = .ok (.iload_n 3, 1) := by decide +kernel
theorem dX11_holds_50 : decode cX11_holds 50 = .ok (.iastore, 1) := by decide +kernel
theorem dX11_holds_51 : decode cX11_holds 51 = .ok (.aload_n 0, 1) := by decide +kernel
