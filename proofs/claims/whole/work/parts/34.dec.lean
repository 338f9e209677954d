theorem dX3_load_73 : decode cX3_load 73 = .ok (.aload_n 0, 1) := by decide +kernel
theorem dX3_load_74 : decode cX3_load 74 = .ok (.iconst 1, 1) := by decide +kernel
theorem dX3_load_75 : decode cX3_load 75 = .ok (.invokevirtual 124, 3) := by decide +kernel
theorem dX3_load_78 : decode cX3_load 78 = .ok (.ifCond .eq 6, 3) := by decide +kernel
theorem dX3_load_81 : decode cX3_load 81 = .ok (.goto 20, 3) := by decide +kernel
theorem dX3_load_84 : decode cX3_load 84 = .ok (.aload_n 0, 1) := by decide +kernel
theorem dX3_load_85 : decode cX3_load 85 = .ok (.getfield 12, 3) := by decide +kernel
theorem dX3_load_88 : decode cX3_load 88 = .ok (.iload 5, 2) := by decide +kernel
theorem dX3_load_90 : decode cX3_load 90 = .ok (.iload 4, 2) := by decide +kernel
theorem dX3_load_92 : decode cX3_load 92 = .ok (.invokevirtual 131, 3) := by decide +kernel
theorem dX3_load_95 : decode cX3_load 95 = .ok (.iinc 3 1, 3) := by decide +kernel
theorem dX3_load_98 : decode cX3_load 98 = .ok (.goto (-63), 3) := by decide +kernel
theorem dX3_load_101 : decode cX3_load 101 = .ok (.iload_n 3, 1) := by decide +kernel
theorem dX3_load_102 : decode cX3_load 102 = .ok (.ireturn, 1) := by decide +kernel
theorem dX3_judge_0 : decode cX3_judge 0 = .ok (.iload_n 1, 1) := by decide +kernel
theorem dX3_judge_1 : decode cX3_judge 1 = .ok (.invokestatic 248, 3) := by decide +kernel
theorem dX3_judge_4 : decode cX3_judge 4 = .ok (.ifCond .ne 9, 3) := by decide +kernel
theorem dX3_judge_7 : decode cX3_judge 7 = .ok (.aload_n 0, 1) := by decide +kernel
theorem dX3_judge_8 : decode cX3_judge 8 = .ok (.iconst 0, 1) := by decide +kernel
theorem dX3_judge_9 : decode cX3_judge 9 = .ok (.invokevirtual 52, 3) := by decide +kernel
theorem dX3_judge_12 : decode cX3_judge 12 = .ok (.ireturn, 1) := by decide +kernel
theorem dX3_judge_13 : decode cX3_judge 13 = .ok (.aload_n 0, 1) := by decide +kernel
theorem dX3_judge_14 : decode cX3_judge 14 = .ok (.getfield 39, 3) := by decide +kernel
theorem dX3_judge_17 : decode cX3_judge 17 = .ok (.iload_n 1, 1) := by decide +kernel
theorem dX3_judge_18 : decode cX3_judge 18 = .ok (.aaload, 1) := by decide +kernel
theorem dX3_judge_19 : decode cX3_judge 19 = .ok (.astore_n 2, 1) := by decide +kernel
theorem dX3_judge_20 : decode cX3_judge 20 = .ok (.aload_n 2, 1) := by decide +kernel
theorem dX3_judge_21 : decode cX3_judge 21 = .ok (.getfield 260, 3) := by decide +kernel
theorem dX3_judge_24 : decode cX3_judge 24 = .ok (.ifCond .ne 9, 3) := by decide +kernel
theorem dX3_judge_27 : decode cX3_judge 27 = .ok (.aload_n 0, 1) := by decide +kernel
theorem dX3_judge_28 : decode cX3_judge 28 = .ok (.iconst 5, 1) := by decide +kernel
theorem dX3_judge_29 : decode cX3_judge 29 = .ok (.invokevirtual 52, 3) := by decide +kernel
theorem dX3_judge_32 : decode cX3_judge 32 = .ok (.ireturn, 1) := by decide +kernel
theorem dX3_judge_33 : decode cX3_judge 33 = .ok (.aload_n 0, 1) := by decide +kernel
theorem dX3_judge_34 : decode cX3_judge 34 = .ok (.aload_n 2, 1) := by decide +kernel
theorem dX3_judge_35 : decode cX3_judge 35 = .ok (.getfield 257, 3) := by decide +kernel
theorem dX3_judge_38 : decode cX3_judge 38 = .ok (.invokevirtual 124, 3) := by decide +kernel
theorem dX3_judge_41 : decode cX3_judge 41 = .ok (.ifCond .eq 9, 3) := by decide +kernel
theorem dX3_judge_44 : decode cX3_judge 44 = .ok (.aload_n 0, 1) := by decide +kernel
theorem dX3_judge_45 : decode cX3_judge 45 = .ok (.iconst 4, 1) := by decide +kernel
theorem dX3_judge_46 : decode cX3_judge 46 = .ok (.invokevirtual 52, 3) := by decide +kernel
theorem dX3_judge_49 : decode cX3_judge 49 = .ok (.ireturn, 1) := by decide +kernel
theorem dX3_judge_50 : decode cX3_judge 50 = .ok (.aload_n 0, 1) := by decide +kernel
theorem dX3_judge_51 : decode cX3_judge 51 = .ok (.getfield 23, 3) := by decide +kernel
theorem dX3_judge_54 : decode cX3_judge 54 = .ok (.aload_n 0, 1) := by decide +kernel
theorem dX3_judge_55 : decode cX3_judge 55 = .ok (.getfield 12, 3) := by decide +kernel
theorem dX3_judge_58 : decode cX3_judge 58 = .ok (.invokevirtual 165, 3) := by decide +kernel
theorem dX3_judge_61 : decode cX3_judge 61 = .ok (.iconst 0, 1) := by decide +kernel
theorem dX3_judge_62 : decode cX3_judge 62 = .ok (.istore_n 3, 1) := by decide +kernel
theorem dX3_judge_63 : decode cX3_judge 63 = .ok (.iload_n 3, 1) := by decide +kernel
theorem dX3_judge_64 : decode cX3_judge 64 = .ok (.aload_n 2, 1) := by decide +kernel
theorem dX3_judge_65 : decode cX3_judge 65 = .ok (.getfield 257, 3) := by decide +kernel
theorem dX3_judge_68 : decode cX3_judge 68 = .ok (.if_icmp .ge 49, 3) := by decide +kernel
theorem dX3_judge_71 : decode cX3_judge 71 = .ok (.aload_n 0, 1) := by decide +kernel
theorem dX3_judge_72 : decode cX3_judge 72 = .ok (.getfield 23, 3) := by decide +kernel
theorem dX3_judge_75 : decode cX3_judge 75 = .ok (.invokevirtual 134, 3) := by decide +kernel
theorem dX3_judge_78 : decode cX3_judge 78 = .ok (.istore 4, 2) := by decide +kernel
theorem dX3_judge_80 : decode cX3_judge 80 = .ok (.aload_n 0, 1) := by decide +kernel
theorem dX3_judge_81 : decode cX3_judge 81 = .ok (.getfield 23, 3) := by decide +kernel
theorem dX3_judge_84 : decode cX3_judge 84 = .ok (.iconst 1, 1) := by decide +kernel
theorem dX3_judge_85 : decode cX3_judge 85 = .ok (.invokevirtual 137, 3) := by decide +kernel
theorem dX3_judge_88 : decode cX3_judge 88 = .ok (.aload_n 0, 1) := by decide +kernel
theorem dX3_judge_89 : decode cX3_judge 89 = .ok (.getfield 23, 3) := by decide +kernel
theorem dX3_judge_92 : decode cX3_judge 92 = .ok (.invokevirtual 134, 3) := by decide +kernel
theorem dX3_judge_95 : decode cX3_judge 95 = .ok (.iload 4, 2) := by decide +kernel
theorem dX3_judge_97 : decode cX3_judge 97 = .ok (.isub, 1) := by decide +kernel
theorem dX3_judge_98 : decode cX3_judge 98 = .ok (.aload_n 2, 1) := by decide +kernel
theorem dX3_judge_99 : decode cX3_judge 99 = .ok (.getfield 267, 3) := by decide +kernel
theorem dX3_judge_102 : decode cX3_judge 102 = .ok (.iload_n 3, 1) := by decide +kernel
theorem dX3_judge_103 : decode cX3_judge 103 = .ok (.iaload, 1) := by decide +kernel
theorem dX3_judge_104 : decode cX3_judge 104 = .ok (.if_icmp .eq 7, 3) := by decide +kernel
theorem dX3_judge_107 : decode cX3_judge 107 = .ok (.iconst 1, 1) := by decide +kernel
theorem dX3_judge_108 : decode cX3_judge 108 = .ok (.iload_n 3, 1) := by decide +kernel
theorem dX3_judge_109 : decode cX3_judge 109 = .ok (.iadd, 1) := by decide +kernel
theorem dX3_judge_110 : decode cX3_judge 110 = .ok (.ireturn, 1) := by decide +kernel
theorem dX3_judge_111 : decode cX3_judge 111 = .ok (.iinc 3 1, 3) := by decide +kernel
theorem dX3_judge_114 : decode cX3_judge 114 = .ok (.goto (-51), 3) := by decide +kernel
theorem dX3_judge_117 : decode cX3_judge 117 = .ok (.iconst 0, 1) := by decide +kernel
theorem dX3_judge_118 : decode cX3_judge 118 = .ok (.ireturn, 1) := by decide +kernel
theorem dX3_image_0 : decode cX3_image 0 = .ok (.aload_n 0, 1) := by decide +kernel
theorem dX3_image_1 : decode cX3_image 1 = .ok (.getfield 16, 3) := by decide +kernel
theorem dX3_image_4 : decode cX3_image 4 = .ok (.aload_n 0, 1) := by decide +kernel
theorem dX3_image_5 : decode cX3_image 5 = .ok (.getfield 12, 3) := by decide +kernel
theorem dX3_image_8 : decode cX3_image 8 = .ok (.invokevirtual 165, 3) := by decide +kernel
theorem dX3_image_11 : decode cX3_image 11 = .ok (.aload_n 0, 1) := by decide +kernel
theorem dX3_image_12 : decode cX3_image 12 = .ok (.iconst 1, 1) := by decide +kernel
theorem dX3_image_13 : decode cX3_image 13 = .ok (.putfield 19, 3) := by decide +kernel
theorem dX3_image_16 : decode cX3_image 16 = .ok (.iconst 1, 1) := by decide +kernel
theorem dX3_image_17 : decode cX3_image 17 = .ok (.ireturn, 1) := by decide +kernel
theorem dX3_undo_0 : decode cX3_undo 0 = .ok (.aload_n 0, 1) := by decide +kernel
theorem dX3_undo_1 : decode cX3_undo 1 = .ok (.getfield 19, 3) := by decide +kernel
theorem dX3_undo_4 : decode cX3_undo 4 = .ok (.ifCond .ne 9, 3) := by decide +kernel
theorem dX3_undo_7 : decode cX3_undo 7 = .ok (.aload_n 0, 1) := by decide +kernel
theorem dX3_undo_8 : decode cX3_undo 8 = .ok (.iconst 3, 1) := by decide +kernel
theorem dX3_undo_9 : decode cX3_undo 9 = .ok (.invokevirtual 52, 3) := by decide +kernel
theorem dX3_undo_12 : decode cX3_undo 12 = .ok (.ireturn, 1) := by decide +kernel
theorem dX3_undo_13 : decode cX3_undo 13 = .ok (.aload_n 0, 1) := by decide +kernel
theorem dX3_undo_14 : decode cX3_undo 14 = .ok (.getfield 12, 3) := by decide +kernel
theorem dX3_undo_17 : decode cX3_undo 17 = .ok (.aload_n 0, 1) := by decide +kernel
theorem dX3_undo_18 : decode cX3_undo 18 = .ok (.getfield 16, 3) := by decide +kernel
theorem dX3_undo_21 : decode cX3_undo 21 = .ok (.invokevirtual 165, 3) := by decide +kernel
theorem dX3_undo_24 : decode cX3_undo 24 = .ok (.aload_n 0, 1) := by decide +kernel
theorem dX3_undo_25 : decode cX3_undo 25 = .ok (.getfield 12, 3) := by decide +kernel
theorem dX3_undo_28 : decode cX3_undo 28 = .ok (.getfield 141, 3) := by decide +kernel
theorem dX3_undo_31 : decode cX3_undo 31 = .ok (.ireturn, 1) := by decide +kernel
theorem dX3_tear_0 : decode cX3_tear 0 = .ok (.aload_n 0, 1) := by decide +kernel
theorem dX3_tear_1 : decode cX3_tear 1 = .ok (.getfield 19, 3) := by decide +kernel
theorem dX3_tear_4 : decode cX3_tear 4 = .ok (.ifCond .eq 7, 3) := by decide +kernel
theorem dX3_tear_7 : decode cX3_tear 7 = .ok (.iconst 1, 1) := by decide +kernel
theorem dX3_tear_8 : decode cX3_tear 8 = .ok (.goto 4, 3) := by decide +kernel
theorem dX3_tear_11 : decode cX3_tear 11 = .ok (.iconst 0, 1) := by decide +kernel
theorem dX3_tear_12 : decode cX3_tear 12 = .ok (.istore_n 1, 1) := by decide +kernel
theorem dX3_tear_13 : decode cX3_tear 13 = .ok (.aload_n 0, 1) := by decide +kernel
theorem dX3_tear_14 : decode cX3_tear 14 = .ok (.iconst 0, 1) := by decide +kernel
theorem dX3_tear_15 : decode cX3_tear 15 = .ok (.putfield 19, 3) := by decide +kernel
theorem dX3_tear_18 : decode cX3_tear 18 = .ok (.iload_n 1, 1) := by decide +kernel
theorem dX3_tear_19 : decode cX3_tear 19 = .ok (.ireturn, 1) := by decide +kernel
theorem dX3_count_0 : decode cX3_count 0 = .ok (.iload_n 1, 1) := by decide +kernel
theorem dX3_count_1 : decode cX3_count 1 = .ok (.tableswitch 121 0 7 #[47, 55, 63, 74, 89, 97, 105, 113], 47) := by decide +kernel
theorem dX3_count_48 : decode cX3_count 48 = .ok (.aload_n 0, 1) := by decide +kernel
theorem dX3_count_49 : decode cX3_count 49 = .ok (.getfield 12, 3) := by decide +kernel
theorem dX3_count_52 : decode cX3_count 52 = .ok (.getfield 141, 3) := by decide +kernel
theorem dX3_count_55 : decode cX3_count 55 = .ok (.ireturn, 1) := by decide +kernel
theorem dX3_count_56 : decode cX3_count 56 = .ok (.aload_n 0, 1) := by decide +kernel
theorem dX3_count_57 : decode cX3_count 57 = .ok (.getfield 12, 3) := by decide +kernel
theorem dX3_count_60 : decode cX3_count 60 = .ok (.getfield 56, 3) := by decide +kernel
theorem dX3_count_63 : decode cX3_count 63 = .ok (.ireturn, 1) := by decide +kernel
theorem dX3_count_64 : decode cX3_count 64 = .ok (.aload_n 0, 1) := by decide +kernel
theorem dX3_count_65 : decode cX3_count 65 = .ok (.getfield 12, 3) := by decide +kernel
theorem dX3_count_68 : decode cX3_count 68 = .ok (.invokevirtual 169, 3) := by decide +kernel
theorem dX3_count_71 : decode cX3_count 71 = .ok (.invokestatic 276, 3) := by decide +kernel
theorem dX3_count_74 : decode cX3_count 74 = .ok (.ireturn, 1) := by decide +kernel
theorem dX3_count_75 : decode cX3_count 75 = .ok (.aload_n 0, 1) := by decide +kernel
theorem dX3_count_76 : decode cX3_count 76 = .ok (.getfield 12, 3) := by decide +kernel
theorem dX3_count_79 : decode cX3_count 79 = .ok (.aload_n 0, 1) := by decide +kernel
theorem dX3_count_80 : decode cX3_count 80 = .ok (.getfield 12, 3) := by decide +kernel
theorem dX3_count_83 : decode cX3_count 83 = .ok (.invokevirtual 169, 3) := by decide +kernel
theorem dX3_count_86 : decode cX3_count 86 = .ok (.invokevirtual 281, 3) := by decide +kernel
theorem dX3_count_89 : decode cX3_count 89 = .ok (.ireturn, 1) := by decide +kernel
theorem dX3_count_90 : decode cX3_count 90 = .ok (.aload_n 0, 1) := by decide +kernel
theorem dX3_count_91 : decode cX3_count 91 = .ok (.getfield 12, 3) := by decide +kernel
theorem dX3_count_94 : decode cX3_count 94 = .ok (.invokevirtual 284, 3) := by decide +kernel
theorem dX3_count_97 : decode cX3_count 97 = .ok (.ireturn, 1) := by decide +kernel
theorem dX3_count_98 : decode cX3_count 98 = .ok (.aload_n 0, 1) := by decide +kernel
theorem dX3_count_99 : decode cX3_count 99 = .ok (.getfield 33, 3) := by decide +kernel
theorem dX3_count_102 : decode cX3_count 102 = .ok (.getfield 232, 3) := by decide +kernel
theorem dX3_count_105 : decode cX3_count 105 = .ok (.ireturn, 1) := by decide +kernel
theorem dX3_count_106 : decode cX3_count 106 = .ok (.aload_n 0, 1) := by decide +kernel
theorem dX3_count_107 : decode cX3_count 107 = .ok (.getfield 12, 3) := by decide +kernel
theorem dX3_count_110 : decode cX3_count 110 = .ok (.getfield 229, 3) := by decide +kernel
theorem dX3_count_113 : decode cX3_count 113 = .ok (.ireturn, 1) := by decide +kernel
theorem dX3_count_114 : decode cX3_count 114 = .ok (.aload_n 0, 1) := by decide +kernel
theorem dX3_count_115 : decode cX3_count 115 = .ok (.getfield 12, 3) := by decide +kernel
theorem dX3_count_118 : decode cX3_count 118 = .ok (.invokevirtual 287, 3) := by decide +kernel
theorem dX3_count_121 : decode cX3_count 121 = .ok (.ireturn, 1) := by decide +kernel
theorem dX3_count_122 : decode cX3_count 122 = .ok (.aload_n 0, 1) := by decide +kernel
theorem dX3_count_123 : decode cX3_count 123 = .ok (.iconst 0, 1) := by decide +kernel
theorem dX3_count_124 : decode cX3_count 124 = .ok (.invokevirtual 52, 3) := by decide +kernel
theorem dX3_count_127 : decode cX3_count 127 = .ok (.ireturn, 1) := by decide +kernel
theorem dX3_status_0 : decode cX3_status 0 = .ok (.iload_n 1, 1) := by decide +kernel
theorem dX3_status_1 : decode cX3_status 1 = .ok (.iconst (-1), 1) := by decide +kernel
theorem dX3_status_2 : decode cX3_status 2 = .ok (.bipush 6, 2) := by decide +kernel
theorem dX3_status_4 : decode cX3_status 4 = .ok (.invokestatic 66, 3) := by decide +kernel
theorem dX3_status_7 : decode cX3_status 7 = .ok (.ifCond .ne 9, 3) := by decide +kernel
theorem dX3_status_10 : decode cX3_status 10 = .ok (.aload_n 0, 1) := by decide +kernel
theorem dX3_status_11 : decode cX3_status 11 = .ok (.iconst 0, 1) := by decide +kernel
theorem dX3_status_12 : decode cX3_status 12 = .ok (.invokevirtual 52, 3) := by decide +kernel
theorem dX3_status_15 : decode cX3_status 15 = .ok (.ireturn, 1) := by decide +kernel
theorem dX3_status_16 : decode cX3_status 16 = .ok (.iload_n 1, 1) := by decide +kernel
theorem dX3_status_17 : decode cX3_status 17 = .ok (.ifCond .lt 10, 3) := by decide +kernel
theorem dX3_status_20 : decode cX3_status 20 = .ok (.aload_n 0, 1) := by decide +kernel
theorem dX3_status_21 : decode cX3_status 21 = .ok (.getfield 43, 3) := by decide +kernel
theorem dX3_status_24 : decode cX3_status 24 = .ok (.iload_n 1, 1) := by decide +kernel
theorem dX3_status_25 : decode cX3_status 25 = .ok (.iaload, 1) := by decide +kernel
theorem dX3_status_26 : decode cX3_status 26 = .ok (.ireturn, 1) := by decide +kernel
theorem dX3_status_27 : decode cX3_status 27 = .ok (.iconst 0, 1) := by decide +kernel
theorem dX3_status_28 : decode cX3_status 28 = .ok (.istore_n 2, 1) := by decide +kernel
theorem dX3_status_29 : decode cX3_status 29 = .ok (.iconst 0, 1) := by decide +kernel
theorem dX3_status_30 : decode cX3_status 30 = .ok (.istore_n 3, 1) := by decide +kernel
theorem dX3_status_31 : decode cX3_status 31 = .ok (.iload_n 3, 1) := by decide +kernel
theorem dX3_status_32 : decode cX3_status 32 = .ok (.bipush 7, 2) := by decide +kernel
theorem dX3_status_34 : decode cX3_status 34 = .ok (.if_icmp .ge 18, 3) := by decide +kernel
theorem dX3_status_37 : decode cX3_status 37 = .ok (.iload_n 2, 1) := by decide +kernel
theorem dX3_status_38 : decode cX3_status 38 = .ok (.aload_n 0, 1) := by decide +kernel
theorem dX3_status_39 : decode cX3_status 39 = .ok (.getfield 43, 3) := by decide +kernel
theorem dX3_status_42 : decode cX3_status 42 = .ok (.iload_n 3, 1) := by decide +kernel
theorem dX3_status_43 : decode cX3_status 43 = .ok (.iaload, 1) := by decide +kernel
theorem dX3_status_44 : decode cX3_status 44 = .ok (.iadd, 1) := by decide +kernel
theorem dX3_status_45 : decode cX3_status 45 = .ok (.istore_n 2, 1) := by decide +kernel
theorem dX3_status_46 : decode cX3_status 46 = .ok (.iinc 3 1, 3) := by decide +kernel
theorem dX3_status_49 : decode cX3_status 49 = .ok (.goto (-18), 3) := by decide +kernel
theorem dX3_status_52 : decode cX3_status 52 = .ok (.iload_n 2, 1) := by decide +kernel
theorem dX3_status_53 : decode cX3_status 53 = .ok (.ireturn, 1) := by decide +kernel
theorem dX3_found_0 : decode cX3_found 0 = .ok (.aload_n 0, 1) := by decide +kernel
theorem dX3_found_1 : decode cX3_found 1 = .ok (.getfield 43, 3) := by decide +kernel
theorem dX3_found_4 : decode cX3_found 4 = .ok (.iload_n 1, 1) := by decide +kernel
theorem dX3_found_5 : decode cX3_found 5 = .ok (.dup2, 1) := by decide +kernel
theorem dX3_found_6 : decode cX3_found 6 = .ok (.iaload, 1) := by decide +kernel
theorem dX3_found_7 : decode cX3_found 7 = .ok (.iconst 1, 1) := by decide +kernel
theorem dX3_found_8 : decode cX3_found 8 = .ok (.iadd, 1) := by decide +kernel
theorem dX3_found_9 : decode cX3_found 9 = .ok (.iastore, 1) := by decide +kernel
theorem dX3_found_10 : decode cX3_found 10 = .ok (.ldc_w 290, 3) := by decide +kernel
theorem dX3_found_13 : decode cX3_found 13 = .ok (.iload_n 1, 1) := by decide +kernel
theorem dX3_found_14 : decode cX3_found 14 = .ok (.isub, 1) := by decide +kernel
theorem dX3_found_15 : decode cX3_found 15 = .ok (.ireturn, 1) := by decide +kernel
theorem dX3_within_0 : decode cX3_within 0 = .ok (.iload_n 0, 1) := by decide +kernel
theorem dX3_within_1 : decode cX3_within 1 = .ok (.iload_n 1, 1) := by decide +kernel
theorem dX3_within_2 : decode cX3_within 2 = .ok (.if_icmp .lt 12, 3) := by decide +kernel
theorem dX3_within_5 : decode cX3_within 5 = .ok (.iload_n 0, 1) := by decide +kernel
theorem dX3_within_6 : decode cX3_within 6 = .ok (.iload_n 2, 1) := by decide +kernel
theorem dX3_within_7 : decode cX3_within 7 = .ok (.if_icmp .gt 7, 3) := by decide +kernel
theorem dX3_within_10 : decode cX3_within 10 = .ok (.iconst 1, 1) := by decide +kernel
theorem dX3_within_11 : decode cX3_within 11 = .ok (.goto 4, 3) := by decide +kernel
theorem dX3_within_14 : decode cX3_within 14 = .ok (.iconst 0, 1) := by decide +kernel
theorem dX3_within_15 : decode cX3_within 15 = .ok (.ireturn, 1) := by decide +kernel
theorem dX3_isKind_0 : decode cX3_isKind 0 = .ok (.iload_n 0, 1) := by decide +kernel
theorem dX3_isKind_1 : decode cX3_isKind 1 = .ok (.iconst 0, 1) := by decide +kernel
theorem dX3_isKind_2 : decode cX3_isKind 2 = .ok (.bipush 6, 2) := by decide +kernel
theorem dX3_isKind_4 : decode cX3_isKind 4 = .ok (.invokestatic 66, 3) := by decide +kernel
theorem dX3_isKind_7 : decode cX3_isKind 7 = .ok (.ireturn, 1) := by decide +kernel
theorem dX3_isColumn_0 : decode cX3_isColumn 0 = .ok (.iload_n 0, 1) := by decide +kernel
theorem dX3_isColumn_1 : decode cX3_isColumn 1 = .ok (.iconst 0, 1) := by decide +kernel
theorem dX3_isColumn_2 : decode cX3_isColumn 2 = .ok (.bipush 6, 2) := by decide +kernel
theorem dX3_isColumn_4 : decode cX3_isColumn 4 = .ok (.invokestatic 66, 3) := by decide +kernel
theorem dX3_isColumn_7 : decode cX3_isColumn 7 = .ok (.ireturn, 1) := by decide +kernel
theorem dX3_isCell_0 : decode cX3_isCell 0 = .ok (.iload_n 0, 1) := by decide +kernel
theorem dX3_isCell_1 : decode cX3_isCell 1 = .ok (.invokestatic 121, 3) := by decide +kernel
theorem dX3_isCell_4 : decode cX3_isCell 4 = .ok (.ifCond .eq 16, 3) := by decide +kernel
theorem dX3_isCell_7 : decode cX3_isCell 7 = .ok (.iload_n 1, 1) := by decide +kernel
theorem dX3_isCell_8 : decode cX3_isCell 8 = .ok (.iconst 0, 1) := by decide +kernel
theorem dX3_isCell_9 : decode cX3_isCell 9 = .ok (.iconst 5, 1) := by decide +kernel
theorem dX3_isCell_10 : decode cX3_isCell 10 = .ok (.invokestatic 66, 3) := by decide +kernel
theorem dX3_isCell_13 : decode cX3_isCell 13 = .ok (.ifCond .eq 7, 3) := by decide +kernel
theorem dX3_isCell_16 : decode cX3_isCell 16 = .ok (.iconst 1, 1) := by decide +kernel
theorem dX3_isCell_17 : decode cX3_isCell 17 = .ok (.goto 4, 3) := by decide +kernel
theorem dX3_isCell_20 : decode cX3_isCell 20 = .ok (.iconst 0, 1) := by decide +kernel
theorem dX3_isCell_21 : decode cX3_isCell 21 = .ok (.ireturn, 1) := by decide +kernel
theorem dX3_cellOf_0 : decode cX3_cellOf 0 = .ok (.iload_n 0, 1) := by decide +kernel
theorem dX3_cellOf_1 : decode cX3_cellOf 1 = .ok (.bipush 6, 2) := by decide +kernel
theorem dX3_cellOf_3 : decode cX3_cellOf 3 = .ok (.imul, 1) := by decide +kernel
theorem dX3_cellOf_4 : decode cX3_cellOf 4 = .ok (.iload_n 1, 1) := by decide +kernel
theorem dX3_cellOf_5 : decode cX3_cellOf 5 = .ok (.iadd, 1) := by decide +kernel
theorem dX3_cellOf_6 : decode cX3_cellOf 6 = .ok (.ireturn, 1) := by decide +kernel
theorem dX3_isSheet_0 : decode cX3_isSheet 0 = .ok (.iload_n 0, 1) := by decide +kernel
theorem dX3_isSheet_1 : decode cX3_isSheet 1 = .ok (.iconst 0, 1) := by decide +kernel
theorem dX3_isSheet_2 : decode cX3_isSheet 2 = .ok (.iconst 3, 1) := by decide +kernel
theorem dX3_isSheet_3 : decode cX3_isSheet 3 = .ok (.invokestatic 66, 3) := by decide +kernel
theorem dX3_isSheet_6 : decode cX3_isSheet 6 = .ok (.ireturn, 1) := by decide +kernel
theorem dX3_isWidth_0 : decode cX3_isWidth 0 = .ok (.iload_n 0, 1) := by decide +kernel
theorem dX3_isWidth_1 : decode cX3_isWidth 1 = .ok (.ifCond .eq 21, 3) := by decide +kernel
theorem dX3_isWidth_4 : decode cX3_isWidth 4 = .ok (.iload_n 0, 1) := by decide +kernel
theorem dX3_isWidth_5 : decode cX3_isWidth 5 = .ok (.bipush 8, 2) := by decide +kernel
theorem dX3_isWidth_7 : decode cX3_isWidth 7 = .ok (.if_icmp .eq 15, 3) := by decide +kernel
theorem dX3_isWidth_10 : decode cX3_isWidth 10 = .ok (.iload_n 0, 1) := by decide +kernel
theorem dX3_isWidth_11 : decode cX3_isWidth 11 = .ok (.bipush 16, 2) := by decide +kernel
theorem dX3_isWidth_13 : decode cX3_isWidth 13 = .ok (.if_icmp .eq 9, 3) := by decide +kernel
theorem dX3_isWidth_16 : decode cX3_isWidth 16 = .ok (.iload_n 0, 1) := by decide +kernel
theorem dX3_isWidth_17 : decode cX3_isWidth 17 = .ok (.bipush 32, 2) := by decide +kernel
theorem dX3_isWidth_19 : decode cX3_isWidth 19 = .ok (.if_icmp .ne 7, 3) := by decide +kernel
theorem dX3_isWidth_22 : decode cX3_isWidth 22 = .ok (.iconst 1, 1) := by decide +kernel
theorem dX3_isWidth_23 : decode cX3_isWidth 23 = .ok (.goto 4, 3) := by decide +kernel
theorem dX3_isWidth_26 : decode cX3_isWidth 26 = .ok (.iconst 0, 1) := by decide +kernel
theorem dX3_isWidth_27 : decode cX3_isWidth 27 = .ok (.ireturn, 1) := by decide +kernel
theorem dX3_isSetting_0 : decode cX3_isSetting 0 = .ok (.iload_n 1, 1) := by decide +kernel
theorem dX3_isSetting_1 : decode cX3_isSetting 1 = .ok (.getstatic 223, 3) := by decide +kernel
theorem dX3_isSetting_4 : decode cX3_isSetting 4 = .ok (.iload_n 0, 1) := by decide +kernel
theorem dX3_isSetting_5 : decode cX3_isSetting 5 = .ok (.iaload, 1) := by decide +kernel
theorem dX3_isSetting_6 : decode cX3_isSetting 6 = .ok (.getstatic 226, 3) := by decide +kernel
theorem dX3_isSetting_9 : decode cX3_isSetting 9 = .ok (.iload_n 0, 1) := by decide +kernel
theorem dX3_isSetting_10 : decode cX3_isSetting 10 = .ok (.iaload, 1) := by decide +kernel
theorem dX3_isSetting_11 : decode cX3_isSetting 11 = .ok (.invokestatic 66, 3) := by decide +kernel
theorem dX3_isSetting_14 : decode cX3_isSetting 14 = .ok (.ireturn, 1) := by decide +kernel
theorem dX3_isUnder_0 : decode cX3_isUnder 0 = .ok (.iload_n 0, 1) := by decide +kernel
theorem dX3_isUnder_1 : decode cX3_isUnder 1 = .ok (.istore_n 2, 1) := by decide +kernel
theorem dX3_isUnder_2 : decode cX3_isUnder 2 = .ok (.iconst 0, 1) := by decide +kernel
theorem dX3_isUnder_3 : decode cX3_isUnder 3 = .ok (.istore_n 3, 1) := by decide +kernel
theorem dX3_isUnder_4 : decode cX3_isUnder 4 = .ok (.iload_n 3, 1) := by decide +kernel
theorem dX3_isUnder_5 : decode cX3_isUnder 5 = .ok (.bipush 7, 2) := by decide +kernel
theorem dX3_isUnder_7 : decode cX3_isUnder 7 = .ok (.if_icmp .ge 26, 3) := by decide +kernel
theorem dX3_isUnder_10 : decode cX3_isUnder 10 = .ok (.iload_n 2, 1) := by decide +kernel
theorem dX3_isUnder_11 : decode cX3_isUnder 11 = .ok (.ifCond .lt 22, 3) := by decide +kernel
theorem dX3_isUnder_14 : decode cX3_isUnder 14 = .ok (.iload_n 2, 1) := by decide +kernel
theorem dX3_isUnder_15 : decode cX3_isUnder 15 = .ok (.iload_n 1, 1) := by decide +kernel
theorem dX3_isUnder_16 : decode cX3_isUnder 16 = .ok (.if_icmp .ne 5, 3) := by decide +kernel
theorem dX3_isUnder_19 : decode cX3_isUnder 19 = .ok (.iconst 1, 1) := by decide +kernel
theorem dX3_isUnder_20 : decode cX3_isUnder 20 = .ok (.ireturn, 1) := by decide +kernel
theorem dX3_isUnder_21 : decode cX3_isUnder 21 = .ok (.getstatic 291, 3) := by decide +kernel
theorem dX3_isUnder_24 : decode cX3_isUnder 24 = .ok (.iload_n 2, 1) := by decide +kernel
theorem dX3_isUnder_25 : decode cX3_isUnder 25 = .ok (.iaload, 1) := by decide +kernel
theorem dX3_isUnder_26 : decode cX3_isUnder 26 = .ok (.istore_n 2, 1) := by decide +kernel
theorem dX3_isUnder_27 : decode cX3_isUnder 27 = .ok (.iinc 3 1, 3) := by decide +kernel
theorem dX3_isUnder_30 : decode cX3_isUnder 30 = .ok (.goto (-26), 3) := by decide +kernel
theorem dX3_isUnder_33 : decode cX3_isUnder 33 = .ok (.iconst 0, 1) := by decide +kernel
theorem dX3_isUnder_34 : decode cX3_isUnder 34 = .ok (.ireturn, 1) := by decide +kernel
theorem dX3_isCoin_0 : decode cX3_isCoin 0 = .ok (.iload_n 1, 1) := by decide +kernel
theorem dX3_isCoin_1 : decode cX3_isCoin 1 = .ok (.iconst 0, 1) := by decide +kernel
theorem dX3_isCoin_2 : decode cX3_isCoin 2 = .ok (.aload_n 0, 1) := by decide +kernel
theorem dX3_isCoin_3 : decode cX3_isCoin 3 = .ok (.getfield 12, 3) := by decide +kernel
theorem dX3_isCoin_6 : decode cX3_isCoin 6 = .ok (.getfield 56, 3) := by decide +kernel
theorem dX3_isCoin_9 : decode cX3_isCoin 9 = .ok (.iconst 1, 1) := by decide +kernel
theorem dX3_isCoin_10 : decode cX3_isCoin 10 = .ok (.isub, 1) := by decide +kernel
theorem dX3_isCoin_11 : decode cX3_isCoin 11 = .ok (.invokestatic 66, 3) := by decide +kernel
theorem dX3_isCoin_14 : decode cX3_isCoin 14 = .ok (.ireturn, 1) := by decide +kernel
theorem dX3_passesEnd_0 : decode cX3_passesEnd 0 = .ok (.aload_n 0, 1) := by decide +kernel
theorem dX3_passesEnd_1 : decode cX3_passesEnd 1 = .ok (.getfield 12, 3) := by decide +kernel
theorem dX3_passesEnd_4 : decode cX3_passesEnd 4 = .ok (.getfield 141, 3) := by decide +kernel
theorem dX3_passesEnd_7 : decode cX3_passesEnd 7 = .ok (.iload_n 1, 1) := by decide +kernel
theorem dX3_passesEnd_8 : decode cX3_passesEnd 8 = .ok (.iadd, 1) := by decide +kernel
theorem dX3_passesEnd_9 : decode cX3_passesEnd 9 = .ok (.sipush 9999, 3) := by decide +kernel
theorem dX3_passesEnd_12 : decode cX3_passesEnd 12 = .ok (.if_icmp .le 7, 3) := by decide +kernel
theorem dX3_passesEnd_15 : decode cX3_passesEnd 15 = .ok (.iconst 1, 1) := by decide +kernel
theorem dX3_passesEnd_16 : decode cX3_passesEnd 16 = .ok (.goto 4, 3) := by decide +kernel
theorem dX3_passesEnd_19 : decode cX3_passesEnd 19 = .ok (.iconst 0, 1) := by decide +kernel
theorem dX3_passesEnd_20 : decode cX3_passesEnd 20 = .ok (.ireturn, 1) := by decide +kernel
theorem dX3_isSearched_0 : decode cX3_isSearched 0 = .ok (.aload_n 0, 1) := by decide +kernel
theorem dX3_isSearched_1 : decode cX3_isSearched 1 = .ok (.getfield 12, 3) := by decide +kernel
theorem dX3_isSearched_4 : decode cX3_isSearched 4 = .ok (.getfield 92, 3) := by decide +kernel
theorem dX3_isSearched_7 : decode cX3_isSearched 7 = .ok (.iload_n 1, 1) := by decide +kernel
theorem dX3_isSearched_8 : decode cX3_isSearched 8 = .ok (.iaload, 1) := by decide +kernel
theorem dX3_isSearched_9 : decode cX3_isSearched 9 = .ok (.bipush 100, 2) := by decide +kernel
theorem dX3_isSearched_11 : decode cX3_isSearched 11 = .ok (.if_icmp .ne 20, 3) := by decide +kernel
theorem dX3_isSearched_14 : decode cX3_isSearched 14 = .ok (.aload_n 0, 1) := by decide +kernel
theorem dX3_isSearched_15 : decode cX3_isSearched 15 = .ok (.getfield 12, 3) := by decide +kernel
theorem dX3_isSearched_18 : decode cX3_isSearched 18 = .ok (.getfield 141, 3) := by decide +kernel
theorem dX3_isSearched_21 : decode cX3_isSearched 21 = .ok (.sipush 9900, 3) := by decide +kernel
theorem dX3_isSearched_24 : decode cX3_isSearched 24 = .ok (.if_icmp .gt 7, 3) := by decide +kernel
theorem dX3_isSearched_27 : decode cX3_isSearched 27 = .ok (.iconst 1, 1) := by decide +kernel
theorem dX3_isSearched_28 : decode cX3_isSearched 28 = .ok (.goto 4, 3) := by decide +kernel
theorem dX3_isSearched_31 : decode cX3_isSearched 31 = .ok (.iconst 0, 1) := by decide +kernel
theorem dX3_isSearched_32 : decode cX3_isSearched 32 = .ok (.ireturn, 1) := by decide +kernel
theorem dX3_canDrop_0 : decode cX3_canDrop 0 = .ok (.aload_n 0, 1) := by decide +kernel
theorem dX3_canDrop_1 : decode cX3_canDrop 1 = .ok (.getfield 12, 3) := by decide +kernel
theorem dX3_canDrop_4 : decode cX3_canDrop 4 = .ok (.bipush 100, 2) := by decide +kernel
theorem dX3_canDrop_6 : decode cX3_canDrop 6 = .ok (.invokevirtual 144, 3) := by decide +kernel
theorem dX3_canDrop_9 : decode cX3_canDrop 9 = .ok (.invokestatic 276, 3) := by decide +kernel
theorem dX3_canDrop_12 : decode cX3_canDrop 12 = .ok (.iload_n 1, 1) := by decide +kernel
theorem dX3_canDrop_13 : decode cX3_canDrop 13 = .ok (.if_icmp .lt 20, 3) := by decide +kernel
theorem dX3_canDrop_16 : decode cX3_canDrop 16 = .ok (.aload_n 0, 1) := by decide +kernel
theorem dX3_canDrop_17 : decode cX3_canDrop 17 = .ok (.getfield 12, 3) := by decide +kernel
theorem dX3_canDrop_20 : decode cX3_canDrop 20 = .ok (.getfield 141, 3) := by decide +kernel
theorem dX3_canDrop_23 : decode cX3_canDrop 23 = .ok (.sipush 9900, 3) := by decide +kernel
theorem dX3_canDrop_26 : decode cX3_canDrop 26 = .ok (.if_icmp .gt 7, 3) := by decide +kernel
theorem dX3_canDrop_29 : decode cX3_canDrop 29 = .ok (.iconst 1, 1) := by decide +kernel
theorem dX3_canDrop_30 : decode cX3_canDrop 30 = .ok (.goto 4, 3) := by decide +kernel
theorem dX3_canDrop_33 : decode cX3_canDrop 33 = .ok (.iconst 0, 1) := by decide +kernel
theorem dX3_canDrop_34 : decode cX3_canDrop 34 = .ok (.ireturn, 1) := by decide +kernel
theorem dX3_gainBy_0 : decode cX3_gainBy 0 = .ok (.aload_n 0, 1) := by decide +kernel
theorem dX3_gainBy_1 : decode cX3_gainBy 1 = .ok (.getfield 23, 3) := by decide +kernel
theorem dX3_gainBy_4 : decode cX3_gainBy 4 = .ok (.aload_n 1, 1) := by decide +kernel
theorem dX3_gainBy_5 : decode cX3_gainBy 5 = .ok (.invokevirtual 165, 3) := by decide +kernel
theorem dX3_gainBy_8 : decode cX3_gainBy 8 = .ok (.aload_n 0, 1) := by decide +kernel
theorem dX3_gainBy_9 : decode cX3_gainBy 9 = .ok (.getfield 23, 3) := by decide +kernel
theorem dX3_gainBy_12 : decode cX3_gainBy 12 = .ok (.iload_n 2, 1) := by decide +kernel
theorem dX3_gainBy_13 : decode cX3_gainBy 13 = .ok (.iload_n 3, 1) := by decide +kernel
theorem dX3_gainBy_14 : decode cX3_gainBy 14 = .ok (.invokevirtual 131, 3) := by decide +kernel
theorem dX3_gainBy_17 : decode cX3_gainBy 17 = .ok (.aload_n 0, 1) := by decide +kernel
theorem dX3_gainBy_18 : decode cX3_gainBy 18 = .ok (.getfield 23, 3) := by decide +kernel
theorem dX3_gainBy_21 : decode cX3_gainBy 21 = .ok (.iload 4, 2) := by decide +kernel
theorem dX3_gainBy_23 : decode cX3_gainBy 23 = .ok (.invokevirtual 137, 3) := by decide +kernel
theorem dX3_gainBy_26 : decode cX3_gainBy 26 = .ok (.aload_n 0, 1) := by decide +kernel
theorem dX3_gainBy_27 : decode cX3_gainBy 27 = .ok (.getfield 23, 3) := by decide +kernel
theorem dX3_gainBy_30 : decode cX3_gainBy 30 = .ok (.invokevirtual 127, 3) := by decide +kernel
theorem dX3_gainBy_33 : decode cX3_gainBy 33 = .ok (.ireturn, 1) := by decide +kernel
theorem dX3_gainOfThree_0 : decode cX3_gainOfThree 0 = .ok (.aload_n 0, 1) := by decide +kernel
theorem dX3_gainOfThree_1 : decode cX3_gainOfThree 1 = .ok (.getfield 23, 3) := by decide +kernel
theorem dX3_gainOfThree_4 : decode cX3_gainOfThree 4 = .ok (.aload_n 0, 1) := by decide +kernel
theorem dX3_gainOfThree_5 : decode cX3_gainOfThree 5 = .ok (.iload_n 1, 1) := by decide +kernel
theorem dX3_gainOfThree_6 : decode cX3_gainOfThree 6 = .ok (.iconst 3, 1) := by decide +kernel
theorem dX3_gainOfThree_7 : decode cX3_gainOfThree 7 = .ok (.invokevirtual 210, 3) := by decide +kernel
theorem dX3_gainOfThree_10 : decode cX3_gainOfThree 10 = .ok (.invokevirtual 165, 3) := by decide +kernel
theorem dX3_gainOfThree_13 : decode cX3_gainOfThree 13 = .ok (.aload_n 0, 1) := by decide +kernel
theorem dX3_gainOfThree_14 : decode cX3_gainOfThree 14 = .ok (.getfield 23, 3) := by decide +kernel
theorem dX3_gainOfThree_17 : decode cX3_gainOfThree 17 = .ok (.iload_n 2, 1) := by decide +kernel
theorem dX3_gainOfThree_18 : decode cX3_gainOfThree 18 = .ok (.invokevirtual 137, 3) := by decide +kernel
theorem dX3_gainOfThree_21 : decode cX3_gainOfThree 21 = .ok (.aload_n 0, 1) := by decide +kernel
theorem dX3_gainOfThree_22 : decode cX3_gainOfThree 22 = .ok (.getfield 23, 3) := by decide +kernel
theorem dX3_gainOfThree_25 : decode cX3_gainOfThree 25 = .ok (.invokevirtual 127, 3) := by decide +kernel
theorem dX3_gainOfThree_28 : decode cX3_gainOfThree 28 = .ok (.ireturn, 1) := by decide +kernel
theorem dX3_columnOf_0 : decode cX3_columnOf 0 = .ok (.iload_n 0, 1) := by decide +kernel
theorem dX3_columnOf_1 : decode cX3_columnOf 1 = .ok (.getstatic 195, 3) := by decide +kernel
theorem dX3_columnOf_4 : decode cX3_columnOf 4 = .ok (.iload_n 1, 1) := by decide +kernel
theorem dX3_columnOf_5 : decode cX3_columnOf 5 = .ok (.iload_n 2, 1) := by decide +kernel
theorem dX3_columnOf_6 : decode cX3_columnOf 6 = .ok (.isub, 1) := by decide +kernel
theorem dX3_columnOf_7 : decode cX3_columnOf 7 = .ok (.iaload, 1) := by decide +kernel
theorem dX3_columnOf_8 : decode cX3_columnOf 8 = .ok (.idiv, 1) := by decide +kernel
theorem dX3_columnOf_9 : decode cX3_columnOf 9 = .ok (.bipush 7, 2) := by decide +kernel
theorem dX3_columnOf_11 : decode cX3_columnOf 11 = .ok (.irem, 1) := by decide +kernel
theorem dX3_columnOf_12 : decode cX3_columnOf 12 = .ok (.ireturn, 1) := by decide +kernel
theorem dX3_walk_0 : decode cX3_walk 0 = .ok (.iconst 1, 1) := by decide +kernel
theorem dX3_walk_1 : decode cX3_walk 1 = .ok (.istore_n 3, 1) := by decide +kernel
theorem dX3_walk_2 : decode cX3_walk 2 = .ok (.iload_n 3, 1) := by decide +kernel
theorem dX3_walk_3 : decode cX3_walk 3 = .ok (.iload_n 2, 1) := by decide +kernel
theorem dX3_walk_4 : decode cX3_walk 4 = .ok (.if_icmp .gt 58, 3) := by decide +kernel
theorem dX3_walk_7 : decode cX3_walk 7 = .ok (.iload_n 1, 1) := by decide +kernel
theorem dX3_walk_8 : decode cX3_walk 8 = .ok (.getstatic 195, 3) := by decide +kernel
theorem dX3_walk_11 : decode cX3_walk 11 = .ok (.iload_n 2, 1) := by decide +kernel
theorem dX3_walk_12 : decode cX3_walk 12 = .ok (.iload_n 3, 1) := by decide +kernel
theorem dX3_walk_13 : decode cX3_walk 13 = .ok (.isub, 1) := by decide +kernel
theorem dX3_walk_14 : decode cX3_walk 14 = .ok (.iaload, 1) := by decide +kernel
theorem dX3_walk_15 : decode cX3_walk 15 = .ok (.irem, 1) := by decide +kernel
theorem dX3_walk_16 : decode cX3_walk 16 = .ok (.ifCond .ne 40, 3) := by decide +kernel
theorem dX3_walk_19 : decode cX3_walk 19 = .ok (.aload_n 0, 1) := by decide +kernel
theorem dX3_walk_20 : decode cX3_walk 20 = .ok (.getfield 26, 3) := by decide +kernel
theorem dX3_walk_23 : decode cX3_walk 23 = .ok (.iload_n 3, 1) := by decide +kernel
theorem dX3_walk_24 : decode cX3_walk 24 = .ok (.aaload, 1) := by decide +kernel
theorem dX3_walk_25 : decode cX3_walk 25 = .ok (.astore 4, 2) := by decide +kernel
theorem dX3_walk_27 : decode cX3_walk 27 = .ok (.aload 4, 2) := by decide +kernel
theorem dX3_walk_29 : decode cX3_walk 29 = .ok (.aload_n 0, 1) := by decide +kernel
theorem dX3_walk_30 : decode cX3_walk 30 = .ok (.getfield 26, 3) := by decide +kernel
theorem dX3_walk_33 : decode cX3_walk 33 = .ok (.iload_n 3, 1) := by decide +kernel
theorem dX3_walk_34 : decode cX3_walk 34 = .ok (.iconst 1, 1) := by decide +kernel
theorem dX3_walk_35 : decode cX3_walk 35 = .ok (.isub, 1) := by decide +kernel
theorem dX3_walk_36 : decode cX3_walk 36 = .ok (.aaload, 1) := by decide +kernel
theorem dX3_walk_37 : decode cX3_walk 37 = .ok (.invokevirtual 165, 3) := by decide +kernel
theorem dX3_walk_40 : decode cX3_walk 40 = .ok (.aload 4, 2) := by decide +kernel
theorem dX3_walk_42 : decode cX3_walk 42 = .ok (.aload 4, 2) := by decide +kernel
theorem dX3_walk_44 : decode cX3_walk 44 = .ok (.invokevirtual 214, 3) := by decide +kernel
theorem dX3_walk_47 : decode cX3_walk 47 = .ok (.iload_n 1, 1) := by decide +kernel
theorem dX3_walk_48 : decode cX3_walk 48 = .ok (.iload_n 2, 1) := by decide +kernel
theorem dX3_walk_49 : decode cX3_walk 49 = .ok (.iload_n 3, 1) := by decide +kernel
theorem dX3_walk_50 : decode cX3_walk 50 = .ok (.invokestatic 198, 3) := by decide +kernel
theorem dX3_walk_53 : decode cX3_walk 53 = .ok (.invokevirtual 131, 3) := by decide +kernel
theorem dX3_walk_56 : decode cX3_walk 56 = .ok (.iinc 3 1, 3) := by decide +kernel
theorem dX3_walk_59 : decode cX3_walk 59 = .ok (.goto (-57), 3) := by decide +kernel
theorem dX3_walk_62 : decode cX3_walk 62 = .ok (.aload_n 0, 1) := by decide +kernel
theorem dX3_walk_63 : decode cX3_walk 63 = .ok (.getfield 26, 3) := by decide +kernel
theorem dX3_walk_66 : decode cX3_walk 66 = .ok (.iload_n 2, 1) := by decide +kernel
theorem dX3_walk_67 : decode cX3_walk 67 = .ok (.aaload, 1) := by decide +kernel
theorem dX3_walk_68 : decode cX3_walk 68 = .ok (.areturn, 1) := by decide +kernel
theorem dX3_soonestWay_0 : decode cX3_soonestWay 0 = .ok (.iconst 0, 1) := by decide +kernel
theorem dX3_soonestWay_1 : decode cX3_soonestWay 1 = .ok (.istore_n 2, 1) := by decide +kernel
theorem dX3_soonestWay_2 : decode cX3_soonestWay 2 = .ok (.iload_n 2, 1) := by decide +kernel
theorem dX3_soonestWay_3 : decode cX3_soonestWay 3 = .ok (.iconst 3, 1) := by decide +kernel
theorem dX3_soonestWay_4 : decode cX3_soonestWay 4 = .ok (.if_icmp .gt 62, 3) := by decide +kernel
theorem dX3_soonestWay_7 : decode cX3_soonestWay 7 = .ok (.aload_n 0, 1) := by decide +kernel
theorem dX3_soonestWay_8 : decode cX3_soonestWay 8 = .ok (.iload_n 2, 1) := by decide +kernel
theorem dX3_soonestWay_9 : decode cX3_soonestWay 9 = .ok (.invokevirtual 189, 3) := by decide +kernel
theorem dX3_soonestWay_12 : decode cX3_soonestWay 12 = .ok (.ifCond .ne 5, 3) := by decide +kernel
theorem dX3_soonestWay_15 : decode cX3_soonestWay 15 = .ok (.iconst (-1), 1) := by decide +kernel
theorem dX3_soonestWay_16 : decode cX3_soonestWay 16 = .ok (.ireturn, 1) := by decide +kernel
theorem dX3_soonestWay_17 : decode cX3_soonestWay 17 = .ok (.iconst 0, 1) := by decide +kernel
theorem dX3_soonestWay_18 : decode cX3_soonestWay 18 = .ok (.istore_n 3, 1) := by decide +kernel
theorem dX3_soonestWay_19 : decode cX3_soonestWay 19 = .ok (.iload_n 3, 1) := by decide +kernel
theorem dX3_soonestWay_20 : decode cX3_soonestWay 20 = .ok (.getstatic 195, 3) := by decide +kernel
theorem dX3_soonestWay_23 : decode cX3_soonestWay 23 = .ok (.iload_n 2, 1) := by decide +kernel
theorem dX3_soonestWay_24 : decode cX3_soonestWay 24 = .ok (.iaload, 1) := by decide +kernel
theorem dX3_soonestWay_25 : decode cX3_soonestWay 25 = .ok (.if_icmp .ge 35, 3) := by decide +kernel
theorem dX3_soonestWay_28 : decode cX3_soonestWay 28 = .ok (.aload_n 0, 1) := by decide +kernel
theorem dX3_soonestWay_29 : decode cX3_soonestWay 29 = .ok (.iload_n 3, 1) := by decide +kernel
theorem dX3_soonestWay_30 : decode cX3_soonestWay 30 = .ok (.iload_n 2, 1) := by decide +kernel
theorem dX3_soonestWay_31 : decode cX3_soonestWay 31 = .ok (.invokevirtual 210, 3) := by decide +kernel
theorem dX3_soonestWay_34 : decode cX3_soonestWay 34 = .ok (.getfield 92, 3) := by decide +kernel
theorem dX3_soonestWay_37 : decode cX3_soonestWay 37 = .ok (.iload_n 1, 1) := by decide +kernel
theorem dX3_soonestWay_38 : decode cX3_soonestWay 38 = .ok (.iaload, 1) := by decide +kernel
theorem dX3_soonestWay_39 : decode cX3_soonestWay 39 = .ok (.bipush 101, 2) := by decide +kernel
theorem dX3_soonestWay_41 : decode cX3_soonestWay 41 = .ok (.if_icmp .ne 13, 3) := by decide +kernel
theorem dX3_soonestWay_44 : decode cX3_soonestWay 44 = .ok (.iload_n 2, 1) := by decide +kernel
theorem dX3_soonestWay_45 : decode cX3_soonestWay 45 = .ok (.getstatic 195, 3) := by decide +kernel
theorem dX3_soonestWay_48 : decode cX3_soonestWay 48 = .ok (.iconst 3, 1) := by decide +kernel
theorem dX3_soonestWay_49 : decode cX3_soonestWay 49 = .ok (.iaload, 1) := by decide +kernel
theorem dX3_soonestWay_50 : decode cX3_soonestWay 50 = .ok (.imul, 1) := by decide +kernel
theorem dX3_soonestWay_51 : decode cX3_soonestWay 51 = .ok (.iload_n 3, 1) := by decide +kernel
theorem dX3_soonestWay_52 : decode cX3_soonestWay 52 = .ok (.iadd, 1) := by decide +kernel
theorem dX3_soonestWay_53 : decode cX3_soonestWay 53 = .ok (.ireturn, 1) := by decide +kernel
theorem dX3_soonestWay_54 : decode cX3_soonestWay 54 = .ok (.iinc 3 1, 3) := by decide +kernel
theorem dX3_soonestWay_57 : decode cX3_soonestWay 57 = .ok (.goto (-38), 3) := by decide +kernel
theorem dX3_soonestWay_60 : decode cX3_soonestWay 60 = .ok (.iinc 2 1, 3) := by decide +kernel
theorem dX3_soonestWay_63 : decode cX3_soonestWay 63 = .ok (.goto (-61), 3) := by decide +kernel
theorem dX3_soonestWay_66 : decode cX3_soonestWay 66 = .ok (.iconst (-1), 1) := by decide +kernel
theorem dX3_soonestWay_67 : decode cX3_soonestWay 67 = .ok (.ireturn, 1) := by decide +kernel
theorem dX3_readText_0 : decode cX3_readText 0 = .ok (.aload_n 0, 1) := by decide +kernel
theorem dX3_readText_1 : decode cX3_readText 1 = .ok (.getfield 33, 3) := by decide +kernel
theorem dX3_readText_4 : decode cX3_readText 4 = .ok (.invokevirtual 294, 3) := by decide +kernel
theorem dX3_readText_7 : decode cX3_readText 7 = .ok (.iconst 1, 1) := by decide +kernel
theorem dX3_readText_8 : decode cX3_readText 8 = .ok (.istore_n 2, 1) := by decide +kernel
theorem dX3_readText_9 : decode cX3_readText 9 = .ok (.iload_n 2, 1) := by decide +kernel
theorem dX3_readText_10 : decode cX3_readText 10 = .ok (.bipush 120, 2) := by decide +kernel
theorem dX3_readText_12 : decode cX3_readText 12 = .ok (.if_icmp .gt 67, 3) := by decide +kernel
theorem dX3_readText_15 : decode cX3_readText 15 = .ok (.aload_n 0, 1) := by decide +kernel
theorem dX3_readText_16 : decode cX3_readText 16 = .ok (.getfield 33, 3) := by decide +kernel
theorem dX3_readText_19 : decode cX3_readText 19 = .ok (.invokevirtual 297, 3) := by decide +kernel
theorem dX3_readText_22 : decode cX3_readText 22 = .ok (.aload_n 0, 1) := by decide +kernel
theorem dX3_readText_23 : decode cX3_readText 23 = .ok (.aload_n 1, 1) := by decide +kernel
theorem dX3_readText_24 : decode cX3_readText 24 = .ok (.invokevirtual 300, 3) := by decide +kernel
theorem dX3_readText_27 : decode cX3_readText 27 = .ok (.ifCond .ne 13, 3) := by decide +kernel
theorem dX3_readText_30 : decode cX3_readText 30 = .ok (.iconst (-1), 1) := by decide +kernel
theorem dX3_readText_31 : decode cX3_readText 31 = .ok (.aload_n 0, 1) := by decide +kernel
theorem dX3_readText_32 : decode cX3_readText 32 = .ok (.getfield 33, 3) := by decide +kernel
theorem dX3_readText_35 : decode cX3_readText 35 = .ok (.getfield 304, 3) := by decide +kernel
theorem dX3_readText_38 : decode cX3_readText 38 = .ok (.isub, 1) := by decide +kernel
theorem dX3_readText_39 : decode cX3_readText 39 = .ok (.ireturn, 1) := by decide +kernel
theorem dX3_readText_40 : decode cX3_readText 40 = .ok (.aload_n 0, 1) := by decide +kernel
theorem dX3_readText_41 : decode cX3_readText 41 = .ok (.getfield 33, 3) := by decide +kernel
theorem dX3_readText_44 : decode cX3_readText 44 = .ok (.getfield 307, 3) := by decide +kernel
theorem dX3_readText_47 : decode cX3_readText 47 = .ok (.ifCond .ne 5, 3) := by decide +kernel
theorem dX3_readText_50 : decode cX3_readText 50 = .ok (.iload_n 2, 1) := by decide +kernel
theorem dX3_readText_51 : decode cX3_readText 51 = .ok (.ireturn, 1) := by decide +kernel
theorem dX3_readText_52 : decode cX3_readText 52 = .ok (.aload_n 0, 1) := by decide +kernel
theorem dX3_readText_53 : decode cX3_readText 53 = .ok (.getfield 33, 3) := by decide +kernel
theorem dX3_readText_56 : decode cX3_readText 56 = .ok (.getfield 307, 3) := by decide +kernel
theorem dX3_readText_59 : decode cX3_readText 59 = .ok (.iconst 3, 1) := by decide +kernel
theorem dX3_readText_60 : decode cX3_readText 60 = .ok (.if_icmp .eq 13, 3) := by decide +kernel
theorem dX3_readText_63 : decode cX3_readText 63 = .ok (.iconst (-1), 1) := by decide +kernel
theorem dX3_readText_64 : decode cX3_readText 64 = .ok (.aload_n 0, 1) := by decide +kernel
theorem dX3_readText_65 : decode cX3_readText 65 = .ok (.getfield 33, 3) := by decide +kernel
theorem dX3_readText_68 : decode cX3_readText 68 = .ok (.getfield 304, 3) := by decide +kernel
theorem dX3_readText_71 : decode cX3_readText 71 = .ok (.isub, 1) := by decide +kernel
theorem dX3_readText_72 : decode cX3_readText 72 = .ok (.ireturn, 1) := by decide +kernel
theorem dX3_readText_73 : decode cX3_readText 73 = .ok (.iinc 2 1, 3) := by decide +kernel
theorem dX3_readText_76 : decode cX3_readText 76 = .ok (.goto (-67), 3) := by decide +kernel
theorem dX3_readText_79 : decode cX3_readText 79 = .ok (.iconst (-1), 1) := by decide +kernel
theorem dX3_readText_80 : decode cX3_readText 80 = .ok (.aload_n 0, 1) := by decide +kernel
theorem dX3_readText_81 : decode cX3_readText 81 = .ok (.getfield 33, 3) := by decide +kernel
theorem dX3_readText_84 : decode cX3_readText 84 = .ok (.getfield 304, 3) := by decide +kernel
theorem dX3_readText_87 : decode cX3_readText 87 = .ok (.isub, 1) := by decide +kernel
theorem dX3_readText_88 : decode cX3_readText 88 = .ok (.ireturn, 1) := by decide +kernel
theorem dX3_readItem_0 : decode cX3_readItem 0 = .ok (.iconst 0, 1) := by decide +kernel
theorem dX3_readItem_1 : decode cX3_readItem 1 = .ok (.istore_n 2, 1) := by decide +kernel
theorem dX3_readItem_2 : decode cX3_readItem 2 = .ok (.iload_n 2, 1) := by decide +kernel
theorem dX3_readItem_3 : decode cX3_readItem 3 = .ok (.bipush 7, 2) := by decide +kernel
theorem dX3_readItem_5 : decode cX3_readItem 5 = .ok (.if_icmp .ge 30, 3) := by decide +kernel
theorem dX3_readItem_8 : decode cX3_readItem 8 = .ok (.aload_n 0, 1) := by decide +kernel
theorem dX3_readItem_9 : decode cX3_readItem 9 = .ok (.getfield 33, 3) := by decide +kernel
theorem dX3_readItem_12 : decode cX3_readItem 12 = .ok (.iload_n 2, 1) := by decide +kernel
theorem dX3_readItem_13 : decode cX3_readItem 13 = .ok (.invokestatic 310, 3) := by decide +kernel
theorem dX3_readItem_16 : decode cX3_readItem 16 = .ok (.invokevirtual 314, 3) := by decide +kernel
theorem dX3_readItem_19 : decode cX3_readItem 19 = .ok (.ifCond .eq 10, 3) := by decide +kernel
theorem dX3_readItem_22 : decode cX3_readItem 22 = .ok (.aload_n 0, 1) := by decide +kernel
theorem dX3_readItem_23 : decode cX3_readItem 23 = .ok (.aload_n 1, 1) := by decide +kernel
theorem dX3_readItem_24 : decode cX3_readItem 24 = .ok (.iload_n 2, 1) := by decide +kernel
theorem dX3_readItem_25 : decode cX3_readItem 25 = .ok (.invokevirtual 318, 3) := by decide +kernel
theorem dX3_readItem_28 : decode cX3_readItem 28 = .ok (.ireturn, 1) := by decide +kernel
theorem dX3_readItem_29 : decode cX3_readItem 29 = .ok (.iinc 2 1, 3) := by decide +kernel
theorem dX3_readItem_32 : decode cX3_readItem 32 = .ok (.goto (-30), 3) := by decide +kernel
theorem dX3_readItem_35 : decode cX3_readItem 35 = .ok (.iconst 0, 1) := by decide +kernel
theorem dX3_readItem_36 : decode cX3_readItem 36 = .ok (.istore_n 2, 1) := by decide +kernel
theorem dX3_readItem_37 : decode cX3_readItem 37 = .ok (.iload_n 2, 1) := by decide +kernel
theorem dX3_readItem_38 : decode cX3_readItem 38 = .ok (.iconst 3, 1) := by decide +kernel
theorem dX3_readItem_39 : decode cX3_readItem 39 = .ok (.if_icmp .ge 30, 3) := by decide +kernel
theorem dX3_readItem_42 : decode cX3_readItem 42 = .ok (.aload_n 0, 1) := by decide +kernel
theorem dX3_readItem_43 : decode cX3_readItem 43 = .ok (.getfield 33, 3) := by decide +kernel
theorem dX3_readItem_46 : decode cX3_readItem 46 = .ok (.iload_n 2, 1) := by decide +kernel
theorem dX3_readItem_47 : decode cX3_readItem 47 = .ok (.invokestatic 322, 3) := by decide +kernel
theorem dX3_readItem_50 : decode cX3_readItem 50 = .ok (.invokevirtual 314, 3) := by decide +kernel
theorem dX3_readItem_53 : decode cX3_readItem 53 = .ok (.ifCond .eq 10, 3) := by decide +kernel
theorem dX3_readItem_56 : decode cX3_readItem 56 = .ok (.aload_n 0, 1) := by decide +kernel
theorem dX3_readItem_57 : decode cX3_readItem 57 = .ok (.aload_n 1, 1) := by decide +kernel
theorem dX3_readItem_58 : decode cX3_readItem 58 = .ok (.iload_n 2, 1) := by decide +kernel
theorem dX3_readItem_59 : decode cX3_readItem 59 = .ok (.invokevirtual 325, 3) := by decide +kernel
theorem dX3_readItem_62 : decode cX3_readItem 62 = .ok (.ireturn, 1) := by decide +kernel
theorem dX3_readItem_63 : decode cX3_readItem 63 = .ok (.iinc 2 1, 3) := by decide +kernel
theorem dX3_readItem_66 : decode cX3_readItem 66 = .ok (.goto (-29), 3) := by decide +kernel
theorem dX3_readItem_69 : decode cX3_readItem 69 = .ok (.iconst 0, 1) := by decide +kernel
theorem dX3_readItem_70 : decode cX3_readItem 70 = .ok (.ireturn, 1) := by decide +kernel
theorem dX3_readCoin_0 : decode cX3_readCoin 0 = .ok (.aload_n 1, 1) := by decide +kernel
theorem dX3_readCoin_1 : decode cX3_readCoin 1 = .ok (.getfield 56, 3) := by decide +kernel
theorem dX3_readCoin_4 : decode cX3_readCoin 4 = .ok (.bipush 24, 2) := by decide +kernel
theorem dX3_readCoin_6 : decode cX3_readCoin 6 = .ok (.if_icmp .lt 5, 3) := by decide +kernel
theorem dX3_readCoin_9 : decode cX3_readCoin 9 = .ok (.iconst 0, 1) := by decide +kernel
theorem dX3_readCoin_10 : decode cX3_readCoin 10 = .ok (.ireturn, 1) := by decide +kernel
theorem dX3_readCoin_11 : decode cX3_readCoin 11 = .ok (.aload_n 1, 1) := by decide +kernel
theorem dX3_readCoin_12 : decode cX3_readCoin 12 = .ok (.iload_n 2, 1) := by decide +kernel
theorem dX3_readCoin_13 : decode cX3_readCoin 13 = .ok (.invokevirtual 60, 3) := by decide +kernel
theorem dX3_readCoin_16 : decode cX3_readCoin 16 = .ok (.istore_n 3, 1) := by decide +kernel
theorem dX3_readCoin_17 : decode cX3_readCoin 17 = .ok (.aload_n 0, 1) := by decide +kernel
theorem dX3_readCoin_18 : decode cX3_readCoin 18 = .ok (.getfield 33, 3) := by decide +kernel
theorem dX3_readCoin_21 : decode cX3_readCoin 21 = .ok (.invokevirtual 297, 3) := by decide +kernel
theorem dX3_readCoin_24 : decode cX3_readCoin 24 = .ok (.aload_n 0, 1) := by decide +kernel
theorem dX3_readCoin_25 : decode cX3_readCoin 25 = .ok (.getfield 33, 3) := by decide +kernel
theorem dX3_readCoin_28 : decode cX3_readCoin 28 = .ok (.ldc_w 328, 3) := by decide +kernel
theorem dX3_readCoin_31 : decode cX3_readCoin 31 = .ok (.invokevirtual 314, 3) := by decide +kernel
theorem dX3_readCoin_34 : decode cX3_readCoin 34 = .ok (.ifCond .ne 5, 3) := by decide +kernel
theorem dX3_readCoin_37 : decode cX3_readCoin 37 = .ok (.iconst 1, 1) := by decide +kernel
theorem dX3_readCoin_38 : decode cX3_readCoin 38 = .ok (.ireturn, 1) := by decide +kernel
theorem dX3_readCoin_39 : decode cX3_readCoin 39 = .ok (.aload_n 0, 1) := by decide +kernel
theorem dX3_readCoin_40 : decode cX3_readCoin 40 = .ok (.getfield 33, 3) := by decide +kernel
theorem dX3_readCoin_43 : decode cX3_readCoin 43 = .ok (.invokevirtual 297, 3) := by decide +kernel
theorem dX3_readCoin_46 : decode cX3_readCoin 46 = .ok (.aload_n 0, 1) := by decide +kernel
theorem dX3_readCoin_47 : decode cX3_readCoin 47 = .ok (.getfield 33, 3) := by decide +kernel
theorem dX3_readCoin_50 : decode cX3_readCoin 50 = .ok (.getfield 307, 3) := by decide +kernel
theorem dX3_readCoin_53 : decode cX3_readCoin 53 = .ok (.iconst 2, 1) := by decide +kernel
theorem dX3_readCoin_54 : decode cX3_readCoin 54 = .ok (.if_icmp .ne 16, 3) := by decide +kernel
theorem dX3_readCoin_57 : decode cX3_readCoin 57 = .ok (.aload_n 0, 1) := by decide +kernel
theorem dX3_readCoin_58 : decode cX3_readCoin 58 = .ok (.getfield 33, 3) := by decide +kernel
theorem dX3_readCoin_61 : decode cX3_readCoin 61 = .ok (.getfield 330, 3) := by decide +kernel
theorem dX3_readCoin_64 : decode cX3_readCoin 64 = .ok (.invokestatic 121, 3) := by decide +kernel
theorem dX3_readCoin_67 : decode cX3_readCoin 67 = .ok (.ifCond .ne 5, 3) := by decide +kernel
theorem dX3_readCoin_70 : decode cX3_readCoin 70 = .ok (.iconst 0, 1) := by decide +kernel
theorem dX3_readCoin_71 : decode cX3_readCoin 71 = .ok (.ireturn, 1) := by decide +kernel
theorem dX3_readCoin_72 : decode cX3_readCoin 72 = .ok (.aload_n 0, 1) := by decide +kernel
theorem dX3_readCoin_73 : decode cX3_readCoin 73 = .ok (.getfield 33, 3) := by decide +kernel
theorem dX3_readCoin_76 : decode cX3_readCoin 76 = .ok (.getfield 330, 3) := by decide +kernel
theorem dX3_readCoin_79 : decode cX3_readCoin 79 = .ok (.istore 4, 2) := by decide +kernel
theorem dX3_readCoin_81 : decode cX3_readCoin 81 = .ok (.aload_n 0, 1) := by decide +kernel
theorem dX3_readCoin_82 : decode cX3_readCoin 82 = .ok (.getfield 33, 3) := by decide +kernel
theorem dX3_readCoin_85 : decode cX3_readCoin 85 = .ok (.invokevirtual 297, 3) := by decide +kernel
theorem dX3_readCoin_88 : decode cX3_readCoin 88 = .ok (.aload_n 0, 1) := by decide +kernel
theorem dX3_readCoin_89 : decode cX3_readCoin 89 = .ok (.getfield 33, 3) := by decide +kernel
theorem dX3_readCoin_92 : decode cX3_readCoin 92 = .ok (.getfield 307, 3) := by decide +kernel
theorem dX3_readCoin_95 : decode cX3_readCoin 95 = .ok (.iconst 2, 1) := by decide +kernel
theorem dX3_readCoin_96 : decode cX3_readCoin 96 = .ok (.if_icmp .ne 37, 3) := by decide +kernel
theorem dX3_readCoin_99 : decode cX3_readCoin 99 = .ok (.iload 4, 2) := by decide +kernel
theorem dX3_readCoin_101 : decode cX3_readCoin 101 = .ok (.aload_n 0, 1) := by decide +kernel
theorem dX3_readCoin_102 : decode cX3_readCoin 102 = .ok (.getfield 33, 3) := by decide +kernel
theorem dX3_readCoin_105 : decode cX3_readCoin 105 = .ok (.getfield 330, 3) := by decide +kernel
theorem dX3_readCoin_108 : decode cX3_readCoin 108 = .ok (.invokestatic 88, 3) := by decide +kernel
theorem dX3_readCoin_111 : decode cX3_readCoin 111 = .ok (.ifCond .eq 22, 3) := by decide +kernel
theorem dX3_readCoin_114 : decode cX3_readCoin 114 = .ok (.aload_n 1, 1) := by decide +kernel
theorem dX3_readCoin_115 : decode cX3_readCoin 115 = .ok (.iload 4, 2) := by decide +kernel
theorem dX3_readCoin_117 : decode cX3_readCoin 117 = .ok (.aload_n 0, 1) := by decide +kernel
theorem dX3_readCoin_118 : decode cX3_readCoin 118 = .ok (.getfield 33, 3) := by decide +kernel
theorem dX3_readCoin_121 : decode cX3_readCoin 121 = .ok (.getfield 330, 3) := by decide +kernel
theorem dX3_readCoin_124 : decode cX3_readCoin 124 = .ok (.invokestatic 95, 3) := by decide +kernel
theorem dX3_readCoin_127 : decode cX3_readCoin 127 = .ok (.invokevirtual 99, 3) := by decide +kernel
theorem dX3_readCoin_130 : decode cX3_readCoin 130 = .ok (.ifCond .ne 5, 3) := by decide +kernel
theorem dX3_readCoin_133 : decode cX3_readCoin 133 = .ok (.iconst 0, 1) := by decide +kernel
theorem dX3_readCoin_134 : decode cX3_readCoin 134 = .ok (.ireturn, 1) := by decide +kernel
theorem dX3_readCoin_135 : decode cX3_readCoin 135 = .ok (.aload_n 1, 1) := by decide +kernel
theorem dX3_readCoin_136 : decode cX3_readCoin 136 = .ok (.iload_n 3, 1) := by decide +kernel
theorem dX3_readCoin_137 : decode cX3_readCoin 137 = .ok (.iload 4, 2) := by decide +kernel
theorem dX3_readCoin_139 : decode cX3_readCoin 139 = .ok (.aload_n 0, 1) := by decide +kernel
theorem dX3_readCoin_140 : decode cX3_readCoin 140 = .ok (.getfield 33, 3) := by decide +kernel
theorem dX3_readCoin_143 : decode cX3_readCoin 143 = .ok (.getfield 330, 3) := by decide +kernel
theorem dX3_readCoin_146 : decode cX3_readCoin 146 = .ok (.invokestatic 95, 3) := by decide +kernel
theorem dX3_readCoin_149 : decode cX3_readCoin 149 = .ok (.invokevirtual 102, 3) := by decide +kernel
theorem dX3_readCoin_152 : decode cX3_readCoin 152 = .ok (.aload_n 0, 1) := by decide +kernel
theorem dX3_readCoin_153 : decode cX3_readCoin 153 = .ok (.getfield 33, 3) := by decide +kernel
theorem dX3_readCoin_156 : decode cX3_readCoin 156 = .ok (.invokevirtual 297, 3) := by decide +kernel
theorem dX3_readCoin_159 : decode cX3_readCoin 159 = .ok (.iconst 1, 1) := by decide +kernel
theorem dX3_readCoin_160 : decode cX3_readCoin 160 = .ok (.ireturn, 1) := by decide +kernel
theorem dX3_readSetting_0 : decode cX3_readSetting 0 = .ok (.aload_n 0, 1) := by decide +kernel
theorem dX3_readSetting_1 : decode cX3_readSetting 1 = .ok (.getfield 33, 3) := by decide +kernel
theorem dX3_readSetting_4 : decode cX3_readSetting 4 = .ok (.invokevirtual 297, 3) := by decide +kernel
theorem dX3_readSetting_7 : decode cX3_readSetting 7 = .ok (.aload_n 0, 1) := by decide +kernel
theorem dX3_readSetting_8 : decode cX3_readSetting 8 = .ok (.getfield 33, 3) := by decide +kernel
theorem dX3_readSetting_11 : decode cX3_readSetting 11 = .ok (.getfield 307, 3) := by decide +kernel
theorem dX3_readSetting_14 : decode cX3_readSetting 14 = .ok (.iconst 2, 1) := by decide +kernel
theorem dX3_readSetting_15 : decode cX3_readSetting 15 = .ok (.if_icmp .ne 17, 3) := by decide +kernel
theorem dX3_readSetting_18 : decode cX3_readSetting 18 = .ok (.iload_n 2, 1) := by decide +kernel
theorem dX3_readSetting_19 : decode cX3_readSetting 19 = .ok (.aload_n 0, 1) := by decide +kernel
theorem dX3_readSetting_20 : decode cX3_readSetting 20 = .ok (.getfield 33, 3) := by decide +kernel
theorem dX3_readSetting_23 : decode cX3_readSetting 23 = .ok (.getfield 330, 3) := by decide +kernel
theorem dX3_readSetting_26 : decode cX3_readSetting 26 = .ok (.invokestatic 115, 3) := by decide +kernel
theorem dX3_readSetting_29 : decode cX3_readSetting 29 = .ok (.ifCond .ne 5, 3) := by decide +kernel
theorem dX3_readSetting_32 : decode cX3_readSetting 32 = .ok (.iconst 0, 1) := by decide +kernel
theorem dX3_readSetting_33 : decode cX3_readSetting 33 = .ok (.ireturn, 1) := by decide +kernel
theorem dX3_readSetting_34 : decode cX3_readSetting 34 = .ok (.aload_n 1, 1) := by decide +kernel
theorem dX3_readSetting_35 : decode cX3_readSetting 35 = .ok (.getfield 118, 3) := by decide +kernel
theorem dX3_readSetting_38 : decode cX3_readSetting 38 = .ok (.iload_n 2, 1) := by decide +kernel
theorem dX3_readSetting_39 : decode cX3_readSetting 39 = .ok (.aload_n 0, 1) := by decide +kernel
theorem dX3_readSetting_40 : decode cX3_readSetting 40 = .ok (.getfield 33, 3) := by decide +kernel
theorem dX3_readSetting_43 : decode cX3_readSetting 43 = .ok (.getfield 330, 3) := by decide +kernel
theorem dX3_readSetting_46 : decode cX3_readSetting 46 = .ok (.iastore, 1) := by decide +kernel
theorem dX3_readSetting_47 : decode cX3_readSetting 47 = .ok (.aload_n 0, 1) := by decide +kernel
theorem dX3_readSetting_48 : decode cX3_readSetting 48 = .ok (.getfield 33, 3) := by decide +kernel
theorem dX3_readSetting_51 : decode cX3_readSetting 51 = .ok (.invokevirtual 297, 3) := by decide +kernel
theorem dX3_readSetting_54 : decode cX3_readSetting 54 = .ok (.iconst 1, 1) := by decide +kernel
theorem dX3_readSetting_55 : decode cX3_readSetting 55 = .ok (.ireturn, 1) := by decide +kernel
theorem dX3_kindWord_0 : decode cX3_kindWord 0 = .ok (.iload_n 0, 1) := by decide +kernel
theorem dX3_kindWord_1 : decode cX3_kindWord 1 = .ok (.tableswitch 63 0 5 #[39, 43, 47, 51, 55, 59], 39) := by decide +kernel
theorem dX3_kindWord_40 : decode cX3_kindWord 40 = .ok (.ldc_w 333, 3) := by decide +kernel
theorem dX3_kindWord_43 : decode cX3_kindWord 43 = .ok (.areturn, 1) := by decide +kernel
theorem dX3_kindWord_44 : decode cX3_kindWord 44 = .ok (.ldc_w 335, 3) := by decide +kernel
theorem dX3_kindWord_47 : decode cX3_kindWord 47 = .ok (.areturn, 1) := by decide +kernel
theorem dX3_kindWord_48 : decode cX3_kindWord 48 = .ok (.ldc_w 337, 3) := by decide +kernel
theorem dX3_kindWord_51 : decode cX3_kindWord 51 = .ok (.areturn, 1) := by decide +kernel
theorem dX3_kindWord_52 : decode cX3_kindWord 52 = .ok (.ldc_w 339, 3) := by decide +kernel
theorem dX3_kindWord_55 : decode cX3_kindWord 55 = .ok (.areturn, 1) := by decide +kernel
theorem dX3_kindWord_56 : decode cX3_kindWord 56 = .ok (.ldc_w 341, 3) := by decide +kernel
theorem dX3_kindWord_59 : decode cX3_kindWord 59 = .ok (.areturn, 1) := by decide +kernel
theorem dX3_kindWord_60 : decode cX3_kindWord 60 = .ok (.ldc_w 343, 3) := by decide +kernel
theorem dX3_kindWord_63 : decode cX3_kindWord 63 = .ok (.areturn, 1) := by decide +kernel
theorem dX3_kindWord_64 : decode cX3_kindWord 64 = .ok (.ldc_w 344, 3) := by decide +kernel
theorem dX3_kindWord_67 : decode cX3_kindWord 67 = .ok (.areturn, 1) := by decide +kernel
theorem dX3_settingWord_0 : decode cX3_settingWord 0 = .ok (.iload_n 0, 1) := by decide +kernel
theorem dX3_settingWord_1 : decode cX3_settingWord 1 = .ok (.lookupswitch 35 #[(0, 27), (1, 31)], 27) := by decide +kernel
theorem dX3_settingWord_28 : decode cX3_settingWord 28 = .ok (.ldc_w 346, 3) := by decide +kernel
theorem dX3_settingWord_31 : decode cX3_settingWord 31 = .ok (.areturn, 1) := by decide +kernel
theorem dX3_settingWord_32 : decode cX3_settingWord 32 = .ok (.ldc_w 348, 3) := by decide +kernel
theorem dX3_settingWord_35 : decode cX3_settingWord 35 = .ok (.areturn, 1) := by decide +kernel
theorem dX3_settingWord_36 : decode cX3_settingWord 36 = .ok (.ldc_w 350, 3) := by decide +kernel
theorem dX3_settingWord_39 : decode cX3_settingWord 39 = .ok (.areturn, 1) := by decide +kernel
theorem dX4_init_0 : decode cX4_init 0 = .ok (.aload_n 0, 1) := by decide +kernel
theorem dX4_init_1 : decode cX4_init 1 = .ok (.invokespecial 1, 3) := by decide +kernel
theorem dX4_init_4 : decode cX4_init 4 = .ok (.aload_n 0, 1) := by decide +kernel
theorem dX4_init_5 : decode cX4_init 5 = .ok (.sipush 275, 3) := by decide +kernel
theorem dX4_init_8 : decode cX4_init 8 = .ok (.newarray .int, 2) := by decide +kernel
theorem dX4_init_10 : decode cX4_init 10 = .ok (.putfield 9, 3) := by decide +kernel
theorem dX4_init_13 : decode cX4_init 13 = .ok (.aload_n 0, 1) := by decide +kernel
theorem dX4_init_14 : decode cX4_init 14 = .ok (.sipush 275, 3) := by decide +kernel
theorem dX4_init_17 : decode cX4_init 17 = .ok (.newarray .int, 2) := by decide +kernel
theorem dX4_init_19 : decode cX4_init 19 = .ok (.putfield 13, 3) := by decide +kernel
theorem dX4_init_22 : decode cX4_init 22 = .ok (.aload_n 0, 1) := by decide +kernel
theorem dX4_init_23 : decode cX4_init 23 = .ok (.sipush 275, 3) := by decide +kernel
theorem dX4_init_26 : decode cX4_init 26 = .ok (.newarray .int, 2) := by decide +kernel
theorem dX4_init_28 : decode cX4_init 28 = .ok (.putfield 16, 3) := by decide +kernel
theorem dX4_init_31 : decode cX4_init 31 = .ok (.aload_n 0, 1) := by decide +kernel
theorem dX4_init_32 : decode cX4_init 32 = .ok (.bipush 8, 2) := by decide +kernel
theorem dX4_init_34 : decode cX4_init 34 = .ok (.newarray .int, 2) := by decide +kernel
theorem dX4_init_36 : decode cX4_init 36 = .ok (.putfield 19, 3) := by decide +kernel
theorem dX4_init_39 : decode cX4_init 39 = .ok (.aload_n 0, 1) := by decide +kernel
theorem dX4_init_40 : decode cX4_init 40 = .ok (.bipush 120, 2) := by decide +kernel
theorem dX4_init_42 : decode cX4_init 42 = .ok (.newarray .int, 2) := by decide +kernel
theorem dX4_init_44 : decode cX4_init 44 = .ok (.putfield 22, 3) := by decide +kernel
theorem dX4_init_47 : decode cX4_init 47 = .ok (.aload_n 0, 1) := by decide +kernel
theorem dX4_init_48 : decode cX4_init 48 = .ok (.bipush 7, 2) := by decide +kernel
theorem dX4_init_50 : decode cX4_init 50 = .ok (.anewarray 25, 3) := by decide +kernel
theorem dX4_init_53 : decode cX4_init 53 = .ok (.dup, 1) := by decide +kernel
theorem dX4_init_54 : decode cX4_init 54 = .ok (.iconst 0, 1) := by decide +kernel
theorem dX4_init_55 : decode cX4_init 55 = .ok (.ldc 27, 2) := by decide +kernel
theorem dX4_init_57 : decode cX4_init 57 = .ok (.aastore, 1) := by decide +kernel
theorem dX4_init_58 : decode cX4_init 58 = .ok (.dup, 1) := by decide +kernel
theorem dX4_init_59 : decode cX4_init 59 = .ok (.iconst 1, 1) := by decide +kernel
theorem dX4_init_60 : decode cX4_init 60 = .ok (.ldc 29, 2) := by decide +kernel
theorem dX4_init_62 : decode cX4_init 62 = .ok (.aastore, 1) := by decide +kernel
theorem dX4_init_63 : decode cX4_init 63 = .ok (.dup, 1) := by decide +kernel
theorem dX4_init_64 : decode cX4_init 64 = .ok (.iconst 2, 1) := by decide +kernel
theorem dX4_init_65 : decode cX4_init 65 = .ok (.ldc 31, 2) := by decide +kernel
theorem dX4_init_67 : decode cX4_init 67 = .ok (.aastore, 1) := by decide +kernel
theorem dX4_init_68 : decode cX4_init 68 = .ok (.dup, 1) := by decide +kernel
theorem dX4_init_69 : decode cX4_init 69 = .ok (.iconst 3, 1) := by decide +kernel
theorem dX4_init_70 : decode cX4_init 70 = .ok (.ldc 33, 2) := by decide +kernel
theorem dX4_init_72 : decode cX4_init 72 = .ok (.aastore, 1) := by decide +kernel
theorem dX4_init_73 : decode cX4_init 73 = .ok (.dup, 1) := by decide +kernel
theorem dX4_init_74 : decode cX4_init 74 = .ok (.iconst 4, 1) := by decide +kernel
theorem dX4_init_75 : decode cX4_init 75 = .ok (.ldc 35, 2) := by decide +kernel
theorem dX4_init_77 : decode cX4_init 77 = .ok (.aastore, 1) := by decide +kernel
theorem dX4_init_78 : decode cX4_init 78 = .ok (.dup, 1) := by decide +kernel
theorem dX4_init_79 : decode cX4_init 79 = .ok (.iconst 5, 1) := by decide +kernel
theorem dX4_init_80 : decode cX4_init 80 = .ok (.ldc 37, 2) := by decide +kernel
theorem dX4_init_82 : decode cX4_init 82 = .ok (.aastore, 1) := by decide +kernel
theorem dX4_init_83 : decode cX4_init 83 = .ok (.dup, 1) := by decide +kernel
theorem dX4_init_84 : decode cX4_init 84 = .ok (.bipush 6, 2) := by decide +kernel
theorem dX4_init_86 : decode cX4_init 86 = .ok (.ldc 39, 2) := by decide +kernel
theorem dX4_init_88 : decode cX4_init 88 = .ok (.aastore, 1) := by decide +kernel
theorem dX4_init_89 : decode cX4_init 89 = .ok (.putfield 41, 3) := by decide +kernel
theorem dX4_init_92 : decode cX4_init 92 = .ok (.aload_n 0, 1) := by decide +kernel
theorem dX4_init_93 : decode cX4_init 93 = .ok (.iconst 3, 1) := by decide +kernel
theorem dX4_init_94 : decode cX4_init 94 = .ok (.anewarray 25, 3) := by decide +kernel
theorem dX4_init_97 : decode cX4_init 97 = .ok (.dup, 1) := by decide +kernel
theorem dX4_init_98 : decode cX4_init 98 = .ok (.iconst 0, 1) := by decide +kernel
theorem dX4_init_99 : decode cX4_init 99 = .ok (.ldc 45, 2) := by decide +kernel
theorem dX4_init_101 : decode cX4_init 101 = .ok (.aastore, 1) := by decide +kernel
theorem dX4_init_102 : decode cX4_init 102 = .ok (.dup, 1) := by decide +kernel
theorem dX4_init_103 : decode cX4_init 103 = .ok (.iconst 1, 1) := by decide +kernel
theorem dX4_init_104 : decode cX4_init 104 = .ok (.ldc 47, 2) := by decide +kernel
theorem dX4_init_106 : decode cX4_init 106 = .ok (.aastore, 1) := by decide +kernel
theorem dX4_init_107 : decode cX4_init 107 = .ok (.dup, 1) := by decide +kernel
theorem dX4_init_108 : decode cX4_init 108 = .ok (.iconst 2, 1) := by decide +kernel
theorem dX4_init_109 : decode cX4_init 109 = .ok (.ldc 49, 2) := by decide +kernel
theorem dX4_init_111 : decode cX4_init 111 = .ok (.aastore, 1) := by decide +kernel
theorem dX4_init_112 : decode cX4_init 112 = .ok (.putfield 51, 3) := by decide +kernel
theorem dX4_init_115 : decode cX4_init 115 = .ok (.aload_n 0, 1) := by decide +kernel
theorem dX4_init_116 : decode cX4_init 116 = .ok (.sipush 240, 3) := by decide +kernel
theorem dX4_init_119 : decode cX4_init 119 = .ok (.newarray .int, 2) := by decide +kernel
theorem dX4_init_121 : decode cX4_init 121 = .ok (.putfield 54, 3) := by decide +kernel
theorem dX4_init_124 : decode cX4_init 124 = .ok (.aload_n 0, 1) := by decide +kernel
theorem dX4_init_125 : decode cX4_init 125 = .ok (.bipush 42, 2) := by decide +kernel
theorem dX4_init_127 : decode cX4_init 127 = .ok (.newarray .int, 2) := by decide +kernel
theorem dX4_init_129 : decode cX4_init 129 = .ok (.putfield 57, 3) := by decide +kernel
theorem dX4_init_132 : decode cX4_init 132 = .ok (.aload_n 0, 1) := by decide +kernel
theorem dX4_init_133 : decode cX4_init 133 = .ok (.iconst 4, 1) := by decide +kernel
theorem dX4_init_134 : decode cX4_init 134 = .ok (.newarray .int, 2) := by decide +kernel
theorem dX4_init_136 : decode cX4_init 136 = .ok (.putfield 60, 3) := by decide +kernel
theorem dX4_init_139 : decode cX4_init 139 = .ok (.aload_n 0, 1) := by decide +kernel
theorem dX4_init_140 : decode cX4_init 140 = .ok (.iconst 4, 1) := by decide +kernel
theorem dX4_init_141 : decode cX4_init 141 = .ok (.newarray .int, 2) := by decide +kernel
theorem dX4_init_143 : decode cX4_init 143 = .ok (.putfield 63, 3) := by decide +kernel
theorem dX4_init_146 : decode cX4_init 146 = .ok (.aload_n 0, 1) := by decide +kernel
theorem dX4_init_147 : decode cX4_init 147 = .ok (.sipush 160, 3) := by decide +kernel
theorem dX4_init_150 : decode cX4_init 150 = .ok (.newarray .int, 2) := by decide +kernel
theorem dX4_init_152 : decode cX4_init 152 = .ok (.putfield 66, 3) := by decide +kernel
theorem dX4_init_155 : decode cX4_init 155 = .ok (.aload_n 0, 1) := by decide +kernel
theorem dX4_init_156 : decode cX4_init 156 = .ok (.bipush 40, 2) := by decide +kernel
theorem dX4_init_158 : decode cX4_init 158 = .ok (.newarray .int, 2) := by decide +kernel
theorem dX4_init_160 : decode cX4_init 160 = .ok (.putfield 69, 3) := by decide +kernel
theorem dX4_init_163 : decode cX4_init 163 = .ok (.aload_n 0, 1) := by decide +kernel
theorem dX4_init_164 : decode cX4_init 164 = .ok (.getfield 9, 3) := by decide +kernel
theorem dX4_init_167 : decode cX4_init 167 = .ok (.iconst 1, 1) := by decide +kernel
theorem dX4_init_168 : decode cX4_init 168 = .ok (.bipush 8, 2) := by decide +kernel
theorem dX4_init_170 : decode cX4_init 170 = .ok (.iastore, 1) := by decide +kernel
theorem dX4_init_171 : decode cX4_init 171 = .ok (.aload_n 0, 1) := by decide +kernel
theorem dX4_init_172 : decode cX4_init 172 = .ok (.getfield 9, 3) := by decide +kernel
theorem dX4_init_175 : decode cX4_init 175 = .ok (.iconst 2, 1) := by decide +kernel
theorem dX4_init_176 : decode cX4_init 176 = .ok (.iconst 2, 1) := by decide +kernel
theorem dX4_init_177 : decode cX4_init 177 = .ok (.iastore, 1) := by decide +kernel
theorem dX4_init_178 : decode cX4_init 178 = .ok (.aload_n 0, 1) := by decide +kernel
theorem dX4_init_179 : decode cX4_init 179 = .ok (.getfield 9, 3) := by decide +kernel
theorem dX4_init_182 : decode cX4_init 182 = .ok (.iconst 3, 1) := by decide +kernel
theorem dX4_init_183 : decode cX4_init 183 = .ok (.iconst 1, 1) := by decide +kernel
theorem dX4_init_184 : decode cX4_init 184 = .ok (.iastore, 1) := by decide +kernel
theorem dX4_init_185 : decode cX4_init 185 = .ok (.aload_n 0, 1) := by decide +kernel
theorem dX4_init_186 : decode cX4_init 186 = .ok (.getfield 9, 3) := by decide +kernel
theorem dX4_init_189 : decode cX4_init 189 = .ok (.bipush 6, 2) := by decide +kernel
theorem dX4_init_191 : decode cX4_init 191 = .ok (.iconst 1, 1) := by decide +kernel
theorem dX4_init_192 : decode cX4_init 192 = .ok (.iastore, 1) := by decide +kernel
theorem dX4_init_193 : decode cX4_init 193 = .ok (.iconst 0, 1) := by decide +kernel
theorem dX4_init_194 : decode cX4_init 194 = .ok (.istore_n 1, 1) := by decide +kernel
theorem dX4_init_195 : decode cX4_init 195 = .ok (.iload_n 1, 1) := by decide +kernel
theorem dX4_init_196 : decode cX4_init 196 = .ok (.bipush 10, 2) := by decide +kernel
theorem dX4_init_198 : decode cX4_init 198 = .ok (.if_icmp .ge 19, 3) := by decide +kernel
theorem dX4_init_201 : decode cX4_init 201 = .ok (.aload_n 0, 1) := by decide +kernel
theorem dX4_init_202 : decode cX4_init 202 = .ok (.getfield 9, 3) := by decide +kernel
theorem dX4_init_205 : decode cX4_init 205 = .ok (.bipush 7, 2) := by decide +kernel
theorem dX4_init_207 : decode cX4_init 207 = .ok (.iload_n 1, 1) := by decide +kernel
theorem dX4_init_208 : decode cX4_init 208 = .ok (.iadd, 1) := by decide +kernel
theorem dX4_init_209 : decode cX4_init 209 = .ok (.iconst (-1), 1) := by decide +kernel
theorem dX4_init_210 : decode cX4_init 210 = .ok (.iastore, 1) := by decide +kernel
theorem dX4_init_211 : decode cX4_init 211 = .ok (.iinc 1 1, 3) := by decide +kernel
theorem dX4_init_214 : decode cX4_init 214 = .ok (.goto (-19), 3) := by decide +kernel
theorem dX4_init_217 : decode cX4_init 217 = .ok (.return_, 1) := by decide +kernel
theorem dX4_finding_0 : decode cX4_finding 0 = .ok (.aload_n 0, 1) := by decide +kernel
theorem dX4_finding_1 : decode cX4_finding 1 = .ok (.getfield 19, 3) := by decide +kernel
theorem dX4_finding_4 : decode cX4_finding 4 = .ok (.ldc 72, 2) := by decide +kernel
theorem dX4_finding_6 : decode cX4_finding 6 = .ok (.iload_n 1, 1) := by decide +kernel
theorem dX4_finding_7 : decode cX4_finding 7 = .ok (.isub, 1) := by decide +kernel
theorem dX4_finding_8 : decode cX4_finding 8 = .ok (.iconst 1, 1) := by decide +kernel
theorem dX4_finding_9 : decode cX4_finding 9 = .ok (.iadd, 1) := by decide +kernel
theorem dX4_finding_10 : decode cX4_finding 10 = .ok (.dup2, 1) := by decide +kernel
theorem dX4_finding_11 : decode cX4_finding 11 = .ok (.iaload, 1) := by decide +kernel
theorem dX4_finding_12 : decode cX4_finding 12 = .ok (.iconst 1, 1) := by decide +kernel
theorem dX4_finding_13 : decode cX4_finding 13 = .ok (.iadd, 1) := by decide +kernel
theorem dX4_finding_14 : decode cX4_finding 14 = .ok (.iastore, 1) := by decide +kernel
theorem dX4_finding_15 : decode cX4_finding 15 = .ok (.aload_n 0, 1) := by decide +kernel
theorem dX4_finding_16 : decode cX4_finding 16 = .ok (.getfield 19, 3) := by decide +kernel
theorem dX4_finding_19 : decode cX4_finding 19 = .ok (.iconst 0, 1) := by decide +kernel
theorem dX4_finding_20 : decode cX4_finding 20 = .ok (.dup2, 1) := by decide +kernel
theorem dX4_finding_21 : decode cX4_finding 21 = .ok (.iaload, 1) := by decide +kernel
theorem dX4_finding_22 : decode cX4_finding 22 = .ok (.iconst 1, 1) := by decide +kernel
theorem dX4_finding_23 : decode cX4_finding 23 = .ok (.iadd, 1) := by decide +kernel
theorem dX4_finding_24 : decode cX4_finding 24 = .ok (.iastore, 1) := by decide +kernel
theorem dX4_finding_25 : decode cX4_finding 25 = .ok (.iload_n 1, 1) := by decide +kernel
theorem dX4_finding_26 : decode cX4_finding 26 = .ok (.ireturn, 1) := by decide +kernel
theorem dX4_within_0 : decode cX4_within 0 = .ok (.iload_n 0, 1) := by decide +kernel
theorem dX4_within_1 : decode cX4_within 1 = .ok (.iload_n 1, 1) := by decide +kernel
theorem dX4_within_2 : decode cX4_within 2 = .ok (.if_icmp .lt 12, 3) := by decide +kernel
theorem dX4_within_5 : decode cX4_within 5 = .ok (.iload_n 0, 1) := by decide +kernel
theorem dX4_within_6 : decode cX4_within 6 = .ok (.iload_n 2, 1) := by decide +kernel
theorem dX4_within_7 : decode cX4_within 7 = .ok (.if_icmp .gt 7, 3) := by decide +kernel
theorem dX4_within_10 : decode cX4_within 10 = .ok (.iconst 1, 1) := by decide +kernel
theorem dX4_within_11 : decode cX4_within 11 = .ok (.goto 4, 3) := by decide +kernel
theorem dX4_within_14 : decode cX4_within 14 = .ok (.iconst 0, 1) := by decide +kernel
theorem dX4_within_15 : decode cX4_within 15 = .ok (.ireturn, 1) := by decide +kernel
theorem dX4_become_0 : decode cX4_become 0 = .ok (.aload_n 0, 1) := by decide +kernel
theorem dX4_become_1 : decode cX4_become 1 = .ok (.getfield 9, 3) := by decide +kernel
theorem dX4_become_4 : decode cX4_become 4 = .ok (.iload_n 1, 1) := by decide +kernel
theorem dX4_become_5 : decode cX4_become 5 = .ok (.iaload, 1) := by decide +kernel
theorem dX4_become_6 : decode cX4_become 6 = .ok (.istore_n 3, 1) := by decide +kernel
theorem dX4_become_7 : decode cX4_become 7 = .ok (.aload_n 0, 1) := by decide +kernel
theorem dX4_become_8 : decode cX4_become 8 = .ok (.getfield 9, 3) := by decide +kernel
theorem dX4_become_11 : decode cX4_become 11 = .ok (.iload_n 1, 1) := by decide +kernel
theorem dX4_become_12 : decode cX4_become 12 = .ok (.iload_n 2, 1) := by decide +kernel
theorem dX4_become_13 : decode cX4_become 13 = .ok (.iastore, 1) := by decide +kernel
theorem dX4_become_14 : decode cX4_become 14 = .ok (.iload_n 3, 1) := by decide +kernel
theorem dX4_become_15 : decode cX4_become 15 = .ok (.ireturn, 1) := by decide +kernel
theorem dX4_copyRow_0 : decode cX4_copyRow 0 = .ok (.iconst 0, 1) := by decide +kernel
theorem dX4_copyRow_1 : decode cX4_copyRow 1 = .ok (.istore_n 2, 1) := by decide +kernel
theorem dX4_copyRow_2 : decode cX4_copyRow 2 = .ok (.iload_n 2, 1) := by decide +kernel
theorem dX4_copyRow_3 : decode cX4_copyRow 3 = .ok (.sipush 275, 3) := by decide +kernel
theorem dX4_copyRow_6 : decode cX4_copyRow 6 = .ok (.if_icmp .ge 15, 3) := by decide +kernel
theorem dX4_copyRow_9 : decode cX4_copyRow 9 = .ok (.aload_n 1, 1) := by decide +kernel
theorem dX4_copyRow_10 : decode cX4_copyRow 10 = .ok (.iload_n 2, 1) := by decide +kernel
theorem dX4_copyRow_11 : decode cX4_copyRow 11 = .ok (.aload_n 0, 1) := by decide +kernel
theorem dX4_copyRow_12 : decode cX4_copyRow 12 = .ok (.iload_n 2, 1) := by decide +kernel
theorem dX4_copyRow_13 : decode cX4_copyRow 13 = .ok (.iaload, 1) := by decide +kernel
theorem dX4_copyRow_14 : decode cX4_copyRow 14 = .ok (.iastore, 1) := by decide +kernel
theorem dX4_copyRow_15 : decode cX4_copyRow 15 = .ok (.iinc 2 1, 3) := by decide +kernel
theorem dX4_copyRow_18 : decode cX4_copyRow 18 = .ok (.goto (-16), 3) := by decide +kernel
theorem dX4_copyRow_21 : decode cX4_copyRow 21 = .ok (.return_, 1) := by decide +kernel
theorem dX4_putBack_0 : decode cX4_putBack 0 = .ok (.aload_n 0, 1) := by decide +kernel
theorem dX4_putBack_1 : decode cX4_putBack 1 = .ok (.getfield 16, 3) := by decide +kernel
theorem dX4_putBack_4 : decode cX4_putBack 4 = .ok (.aload_n 0, 1) := by decide +kernel
theorem dX4_putBack_5 : decode cX4_putBack 5 = .ok (.getfield 9, 3) := by decide +kernel
theorem dX4_putBack_8 : decode cX4_putBack 8 = .ok (.invokestatic 73, 3) := by decide +kernel
theorem dX4_putBack_11 : decode cX4_putBack 11 = .ok (.iload_n 1, 1) := by decide +kernel
theorem dX4_putBack_12 : decode cX4_putBack 12 = .ok (.ireturn, 1) := by decide +kernel
theorem dX4_isCoin_0 : decode cX4_isCoin 0 = .ok (.iload_n 1, 1) := by decide +kernel
theorem dX4_isCoin_1 : decode cX4_isCoin 1 = .ok (.iconst 0, 1) := by decide +kernel
theorem dX4_isCoin_2 : decode cX4_isCoin 2 = .ok (.aload_n 0, 1) := by decide +kernel
theorem dX4_isCoin_3 : decode cX4_isCoin 3 = .ok (.getfield 9, 3) := by decide +kernel
theorem dX4_isCoin_6 : decode cX4_isCoin 6 = .ok (.iconst 4, 1) := by decide +kernel
theorem dX4_isCoin_7 : decode cX4_isCoin 7 = .ok (.iaload, 1) := by decide +kernel
theorem dX4_isCoin_8 : decode cX4_isCoin 8 = .ok (.iconst 1, 1) := by decide +kernel
theorem dX4_isCoin_9 : decode cX4_isCoin 9 = .ok (.isub, 1) := by decide +kernel
theorem dX4_isCoin_10 : decode cX4_isCoin 10 = .ok (.invokestatic 77, 3) := by decide +kernel
theorem dX4_isCoin_13 : decode cX4_isCoin 13 = .ok (.ireturn, 1) := by decide +kernel
theorem dX4_isKind_0 : decode cX4_isKind 0 = .ok (.iload_n 0, 1) := by decide +kernel
theorem dX4_isKind_1 : decode cX4_isKind 1 = .ok (.iconst 0, 1) := by decide +kernel
theorem dX4_isKind_2 : decode cX4_isKind 2 = .ok (.bipush 6, 2) := by decide +kernel
theorem dX4_isKind_4 : decode cX4_isKind 4 = .ok (.invokestatic 77, 3) := by decide +kernel
theorem dX4_isKind_7 : decode cX4_isKind 7 = .ok (.ireturn, 1) := by decide +kernel
theorem dX4_isColumn_0 : decode cX4_isColumn 0 = .ok (.iload_n 0, 1) := by decide +kernel
theorem dX4_isColumn_1 : decode cX4_isColumn 1 = .ok (.iconst 0, 1) := by decide +kernel
theorem dX4_isColumn_2 : decode cX4_isColumn 2 = .ok (.bipush 6, 2) := by decide +kernel
theorem dX4_isColumn_4 : decode cX4_isColumn 4 = .ok (.invokestatic 77, 3) := by decide +kernel
theorem dX4_isColumn_7 : decode cX4_isColumn 7 = .ok (.ireturn, 1) := by decide +kernel
theorem dX4_isCell_0 : decode cX4_isCell 0 = .ok (.iload_n 0, 1) := by decide +kernel
theorem dX4_isCell_1 : decode cX4_isCell 1 = .ok (.invokestatic 81, 3) := by decide +kernel
theorem dX4_isCell_4 : decode cX4_isCell 4 = .ok (.ifCond .eq 16, 3) := by decide +kernel
theorem dX4_isCell_7 : decode cX4_isCell 7 = .ok (.iload_n 1, 1) := by decide +kernel
theorem dX4_isCell_8 : decode cX4_isCell 8 = .ok (.iconst 0, 1) := by decide +kernel
theorem dX4_isCell_9 : decode cX4_isCell 9 = .ok (.iconst 5, 1) := by decide +kernel
theorem dX4_isCell_10 : decode cX4_isCell 10 = .ok (.invokestatic 77, 3) := by decide +kernel
theorem dX4_isCell_13 : decode cX4_isCell 13 = .ok (.ifCond .eq 7, 3) := by decide +kernel
theorem dX4_isCell_16 : decode cX4_isCell 16 = .ok (.iconst 1, 1) := by decide +kernel
theorem dX4_isCell_17 : decode cX4_isCell 17 = .ok (.goto 4, 3) := by decide +kernel
theorem dX4_isCell_20 : decode cX4_isCell 20 = .ok (.iconst 0, 1) := by decide +kernel
theorem dX4_isCell_21 : decode cX4_isCell 21 = .ok (.ireturn, 1) := by decide +kernel
theorem dX4_cellOf_0 : decode cX4_cellOf 0 = .ok (.bipush 6, 2) := by decide +kernel
theorem dX4_cellOf_2 : decode cX4_cellOf 2 = .ok (.iload_n 0, 1) := by decide +kernel
theorem dX4_cellOf_3 : decode cX4_cellOf 3 = .ok (.imul, 1) := by decide +kernel
theorem dX4_cellOf_4 : decode cX4_cellOf 4 = .ok (.iload_n 1, 1) := by decide +kernel
theorem dX4_cellOf_5 : decode cX4_cellOf 5 = .ok (.iadd, 1) := by decide +kernel
theorem dX4_cellOf_6 : decode cX4_cellOf 6 = .ok (.ireturn, 1) := by decide +kernel
theorem dX4_highOf_0 : decode cX4_highOf 0 = .ok (.aload_n 0, 1) := by decide +kernel
theorem dX4_highOf_1 : decode cX4_highOf 1 = .ok (.getfield 9, 3) := by decide +kernel
theorem dX4_highOf_4 : decode cX4_highOf 4 = .ok (.bipush 65, 2) := by decide +kernel
theorem dX4_highOf_6 : decode cX4_highOf 6 = .ok (.iload_n 1, 1) := by decide +kernel
theorem dX4_highOf_7 : decode cX4_highOf 7 = .ok (.iadd, 1) := by decide +kernel
theorem dX4_highOf_8 : decode cX4_highOf 8 = .ok (.iaload, 1) := by decide +kernel
theorem dX4_highOf_9 : decode cX4_highOf 9 = .ok (.ireturn, 1) := by decide +kernel
theorem dX4_coinAt_0 : decode cX4_coinAt 0 = .ok (.aload_n 0, 1) := by decide +kernel
theorem dX4_coinAt_1 : decode cX4_coinAt 1 = .ok (.getfield 9, 3) := by decide +kernel
theorem dX4_coinAt_4 : decode cX4_coinAt 4 = .ok (.bipush 107, 2) := by decide +kernel
theorem dX4_coinAt_6 : decode cX4_coinAt 6 = .ok (.iconst 4, 1) := by decide +kernel
theorem dX4_coinAt_7 : decode cX4_coinAt 7 = .ok (.iload_n 1, 1) := by decide +kernel
theorem dX4_coinAt_8 : decode cX4_coinAt 8 = .ok (.imul, 1) := by decide +kernel
theorem dX4_coinAt_9 : decode cX4_coinAt 9 = .ok (.iadd, 1) := by decide +kernel
theorem dX4_coinAt_10 : decode cX4_coinAt 10 = .ok (.iload_n 2, 1) := by decide +kernel
theorem dX4_coinAt_11 : decode cX4_coinAt 11 = .ok (.iadd, 1) := by decide +kernel
theorem dX4_coinAt_12 : decode cX4_coinAt 12 = .ok (.iaload, 1) := by decide +kernel
theorem dX4_coinAt_13 : decode cX4_coinAt 13 = .ok (.ireturn, 1) := by decide +kernel
theorem dX4_topOf_0 : decode cX4_topOf 0 = .ok (.aload_n 0, 1) := by decide +kernel
theorem dX4_topOf_1 : decode cX4_topOf 1 = .ok (.iload_n 1, 1) := by decide +kernel
theorem dX4_topOf_2 : decode cX4_topOf 2 = .ok (.aload_n 0, 1) := by decide +kernel
theorem dX4_topOf_3 : decode cX4_topOf 3 = .ok (.iload_n 1, 1) := by decide +kernel
theorem dX4_topOf_4 : decode cX4_topOf 4 = .ok (.invokevirtual 85, 3) := by decide +kernel
theorem dX4_topOf_7 : decode cX4_topOf 7 = .ok (.iconst 1, 1) := by decide +kernel
theorem dX4_topOf_8 : decode cX4_topOf 8 = .ok (.isub, 1) := by decide +kernel
theorem dX4_topOf_9 : decode cX4_topOf 9 = .ok (.invokevirtual 89, 3) := by decide +kernel
theorem dX4_topOf_12 : decode cX4_topOf 12 = .ok (.ireturn, 1) := by decide +kernel
theorem dX4_isOnShelf_0 : decode cX4_isOnShelf 0 = .ok (.aload_n 0, 1) := by decide +kernel
theorem dX4_isOnShelf_1 : decode cX4_isOnShelf 1 = .ok (.getfield 9, 3) := by decide +kernel
theorem dX4_isOnShelf_4 : decode cX4_isOnShelf 4 = .ok (.bipush 41, 2) := by decide +kernel
theorem dX4_isOnShelf_6 : decode cX4_isOnShelf 6 = .ok (.iload_n 1, 1) := by decide +kernel
theorem dX4_isOnShelf_7 : decode cX4_isOnShelf 7 = .ok (.iadd, 1) := by decide +kernel
theorem dX4_isOnShelf_8 : decode cX4_isOnShelf 8 = .ok (.iaload, 1) := by decide +kernel
theorem dX4_isOnShelf_9 : decode cX4_isOnShelf 9 = .ok (.bipush 100, 2) := by decide +kernel
theorem dX4_isOnShelf_11 : decode cX4_isOnShelf 11 = .ok (.if_icmp .ge 7, 3) := by decide +kernel
theorem dX4_isOnShelf_14 : decode cX4_isOnShelf 14 = .ok (.iconst 1, 1) := by decide +kernel
theorem dX4_isOnShelf_15 : decode cX4_isOnShelf 15 = .ok (.goto 4, 3) := by decide +kernel
theorem dX4_isOnShelf_18 : decode cX4_isOnShelf 18 = .ok (.iconst 0, 1) := by decide +kernel
theorem dX4_isOnShelf_19 : decode cX4_isOnShelf 19 = .ok (.ireturn, 1) := by decide +kernel
theorem dX4_comesOn_0 : decode cX4_comesOn 0 = .ok (.aload_n 0, 1) := by decide +kernel
theorem dX4_comesOn_1 : decode cX4_comesOn 1 = .ok (.getfield 9, 3) := by decide +kernel
theorem dX4_comesOn_4 : decode cX4_comesOn 4 = .ok (.bipush 107, 2) := by decide +kernel
theorem dX4_comesOn_6 : decode cX4_comesOn 6 = .ok (.iconst 4, 1) := by decide +kernel
theorem dX4_comesOn_7 : decode cX4_comesOn 7 = .ok (.iload_n 2, 1) := by decide +kernel
theorem dX4_comesOn_8 : decode cX4_comesOn 8 = .ok (.imul, 1) := by decide +kernel
theorem dX4_comesOn_9 : decode cX4_comesOn 9 = .ok (.iadd, 1) := by decide +kernel
theorem dX4_comesOn_10 : decode cX4_comesOn 10 = .ok (.aload_n 0, 1) := by decide +kernel
theorem dX4_comesOn_11 : decode cX4_comesOn 11 = .ok (.iload_n 2, 1) := by decide +kernel
theorem dX4_comesOn_12 : decode cX4_comesOn 12 = .ok (.invokevirtual 85, 3) := by decide +kernel
theorem dX4_comesOn_15 : decode cX4_comesOn 15 = .ok (.iadd, 1) := by decide +kernel
theorem dX4_comesOn_16 : decode cX4_comesOn 16 = .ok (.iload_n 1, 1) := by decide +kernel
theorem dX4_comesOn_17 : decode cX4_comesOn 17 = .ok (.iastore, 1) := by decide +kernel
theorem dX4_comesOn_18 : decode cX4_comesOn 18 = .ok (.aload_n 0, 1) := by decide +kernel
theorem dX4_comesOn_19 : decode cX4_comesOn 19 = .ok (.getfield 9, 3) := by decide +kernel
theorem dX4_comesOn_22 : decode cX4_comesOn 22 = .ok (.bipush 65, 2) := by decide +kernel
theorem dX4_comesOn_24 : decode cX4_comesOn 24 = .ok (.iload_n 2, 1) := by decide +kernel
theorem dX4_comesOn_25 : decode cX4_comesOn 25 = .ok (.iadd, 1) := by decide +kernel
theorem dX4_comesOn_26 : decode cX4_comesOn 26 = .ok (.dup2, 1) := by decide +kernel
theorem dX4_comesOn_27 : decode cX4_comesOn 27 = .ok (.iaload, 1) := by decide +kernel
theorem dX4_comesOn_28 : decode cX4_comesOn 28 = .ok (.iconst 1, 1) := by decide +kernel
theorem dX4_comesOn_29 : decode cX4_comesOn 29 = .ok (.iadd, 1) := by decide +kernel
theorem dX4_comesOn_30 : decode cX4_comesOn 30 = .ok (.iastore, 1) := by decide +kernel
theorem dX4_comesOn_31 : decode cX4_comesOn 31 = .ok (.aload_n 0, 1) := by decide +kernel
theorem dX4_comesOn_32 : decode cX4_comesOn 32 = .ok (.getfield 9, 3) := by decide +kernel
theorem dX4_comesOn_35 : decode cX4_comesOn 35 = .ok (.bipush 41, 2) := by decide +kernel
theorem dX4_comesOn_37 : decode cX4_comesOn 37 = .ok (.iload_n 1, 1) := by decide +kernel
theorem dX4_comesOn_38 : decode cX4_comesOn 38 = .ok (.iadd, 1) := by decide +kernel
theorem dX4_comesOn_39 : decode cX4_comesOn 39 = .ok (.bipush 10, 2) := by decide +kernel
theorem dX4_comesOn_41 : decode cX4_comesOn 41 = .ok (.iload_n 2, 1) := by decide +kernel
theorem dX4_comesOn_42 : decode cX4_comesOn 42 = .ok (.bipush 6, 2) := by decide +kernel
theorem dX4_comesOn_44 : decode cX4_comesOn 44 = .ok (.idiv, 1) := by decide +kernel
theorem dX4_comesOn_45 : decode cX4_comesOn 45 = .ok (.imul, 1) := by decide +kernel
theorem dX4_comesOn_46 : decode cX4_comesOn 46 = .ok (.iload_n 2, 1) := by decide +kernel
theorem dX4_comesOn_47 : decode cX4_comesOn 47 = .ok (.bipush 6, 2) := by decide +kernel
theorem dX4_comesOn_49 : decode cX4_comesOn 49 = .ok (.irem, 1) := by decide +kernel
theorem dX4_comesOn_50 : decode cX4_comesOn 50 = .ok (.iadd, 1) := by decide +kernel
theorem dX4_comesOn_51 : decode cX4_comesOn 51 = .ok (.iastore, 1) := by decide +kernel
theorem dX4_comesOn_52 : decode cX4_comesOn 52 = .ok (.return_, 1) := by decide +kernel
theorem dX4_taken_0 : decode cX4_taken 0 = .ok (.aload_n 0, 1) := by decide +kernel
theorem dX4_taken_1 : decode cX4_taken 1 = .ok (.iload_n 1, 1) := by decide +kernel
theorem dX4_taken_2 : decode cX4_taken 2 = .ok (.invokevirtual 93, 3) := by decide +kernel
theorem dX4_taken_5 : decode cX4_taken 5 = .ok (.istore_n 2, 1) := by decide +kernel
theorem dX4_taken_6 : decode cX4_taken 6 = .ok (.aload_n 0, 1) := by decide +kernel
theorem dX4_taken_7 : decode cX4_taken 7 = .ok (.getfield 9, 3) := by decide +kernel
theorem dX4_taken_10 : decode cX4_taken 10 = .ok (.bipush 65, 2) := by decide +kernel
theorem dX4_taken_12 : decode cX4_taken 12 = .ok (.iload_n 1, 1) := by decide +kernel
theorem dX4_taken_13 : decode cX4_taken 13 = .ok (.iadd, 1) := by decide +kernel
theorem dX4_taken_14 : decode cX4_taken 14 = .ok (.dup2, 1) := by decide +kernel
theorem dX4_taken_15 : decode cX4_taken 15 = .ok (.iaload, 1) := by decide +kernel
theorem dX4_taken_16 : decode cX4_taken 16 = .ok (.iconst 1, 1) := by decide +kernel
theorem dX4_taken_17 : decode cX4_taken 17 = .ok (.isub, 1) := by decide +kernel
theorem dX4_taken_18 : decode cX4_taken 18 = .ok (.iastore, 1) := by decide +kernel
theorem dX4_taken_19 : decode cX4_taken 19 = .ok (.iload_n 2, 1) := by decide +kernel
theorem dX4_taken_20 : decode cX4_taken 20 = .ok (.ireturn, 1) := by decide +kernel
theorem dX4_struck_0 : decode cX4_struck 0 = .ok (.aload_n 0, 1) := by decide +kernel
theorem dX4_struck_1 : decode cX4_struck 1 = .ok (.getfield 9, 3) := by decide +kernel
theorem dX4_struck_4 : decode cX4_struck 4 = .ok (.iconst 4, 1) := by decide +kernel
theorem dX4_struck_5 : decode cX4_struck 5 = .ok (.iaload, 1) := by decide +kernel
theorem dX4_struck_6 : decode cX4_struck 6 = .ok (.istore_n 2, 1) := by decide +kernel
theorem dX4_struck_7 : decode cX4_struck 7 = .ok (.aload_n 0, 1) := by decide +kernel
theorem dX4_struck_8 : decode cX4_struck 8 = .ok (.getfield 9, 3) := by decide +kernel
theorem dX4_struck_11 : decode cX4_struck 11 = .ok (.bipush 17, 2) := by decide +kernel
theorem dX4_struck_13 : decode cX4_struck 13 = .ok (.iload_n 2, 1) := by decide +kernel
theorem dX4_struck_14 : decode cX4_struck 14 = .ok (.iadd, 1) := by decide +kernel
theorem dX4_struck_15 : decode cX4_struck 15 = .ok (.iload_n 1, 1) := by decide +kernel
theorem dX4_struck_16 : decode cX4_struck 16 = .ok (.iastore, 1) := by decide +kernel
theorem dX4_struck_17 : decode cX4_struck 17 = .ok (.aload_n 0, 1) := by decide +kernel
theorem dX4_struck_18 : decode cX4_struck 18 = .ok (.getfield 9, 3) := by decide +kernel
theorem dX4_struck_21 : decode cX4_struck 21 = .ok (.bipush 41, 2) := by decide +kernel
theorem dX4_struck_23 : decode cX4_struck 23 = .ok (.iload_n 2, 1) := by decide +kernel
theorem dX4_struck_24 : decode cX4_struck 24 = .ok (.iadd, 1) := by decide +kernel
theorem dX4_struck_25 : decode cX4_struck 25 = .ok (.bipush 100, 2) := by decide +kernel
theorem dX4_struck_27 : decode cX4_struck 27 = .ok (.iastore, 1) := by decide +kernel
theorem dX4_struck_28 : decode cX4_struck 28 = .ok (.aload_n 0, 1) := by decide +kernel
theorem dX4_struck_29 : decode cX4_struck 29 = .ok (.getfield 9, 3) := by decide +kernel
theorem dX4_struck_32 : decode cX4_struck 32 = .ok (.iconst 4, 1) := by decide +kernel
theorem dX4_struck_33 : decode cX4_struck 33 = .ok (.dup2, 1) := by decide +kernel
theorem dX4_struck_34 : decode cX4_struck 34 = .ok (.iaload, 1) := by decide +kernel
theorem dX4_struck_35 : decode cX4_struck 35 = .ok (.iconst 1, 1) := by decide +kernel
theorem dX4_struck_36 : decode cX4_struck 36 = .ok (.iadd, 1) := by decide +kernel
theorem dX4_struck_37 : decode cX4_struck 37 = .ok (.iastore, 1) := by decide +kernel
theorem dX4_struck_38 : decode cX4_struck 38 = .ok (.iload_n 2, 1) := by decide +kernel
theorem dX4_struck_39 : decode cX4_struck 39 = .ok (.ireturn, 1) := by decide +kernel
theorem dX4_coin_0 : decode cX4_coin 0 = .ok (.iload_n 1, 1) := by decide +kernel
theorem dX4_coin_1 : decode cX4_coin 1 = .ok (.invokestatic 96, 3) := by decide +kernel
theorem dX4_coin_4 : decode cX4_coin 4 = .ok (.ifCond .ne 10, 3) := by decide +kernel
theorem dX4_coin_7 : decode cX4_coin 7 = .ok (.aload_n 0, 1) := by decide +kernel
theorem dX4_coin_8 : decode cX4_coin 8 = .ok (.ldc 72, 2) := by decide +kernel
theorem dX4_coin_10 : decode cX4_coin 10 = .ok (.invokevirtual 99, 3) := by decide +kernel
theorem dX4_coin_13 : decode cX4_coin 13 = .ok (.ireturn, 1) := by decide +kernel
theorem dX4_coin_14 : decode cX4_coin 14 = .ok (.aload_n 0, 1) := by decide +kernel
theorem dX4_coin_15 : decode cX4_coin 15 = .ok (.getfield 9, 3) := by decide +kernel
theorem dX4_coin_18 : decode cX4_coin 18 = .ok (.iconst 4, 1) := by decide +kernel
theorem dX4_coin_19 : decode cX4_coin 19 = .ok (.iaload, 1) := by decide +kernel
theorem dX4_coin_20 : decode cX4_coin 20 = .ok (.bipush 24, 2) := by decide +kernel
theorem dX4_coin_22 : decode cX4_coin 22 = .ok (.if_icmp .ne 12, 3) := by decide +kernel
theorem dX4_coin_25 : decode cX4_coin 25 = .ok (.aload_n 0, 1) := by decide +kernel
theorem dX4_coin_26 : decode cX4_coin 26 = .ok (.ldc 102, 2) := by decide +kernel
theorem dX4_coin_28 : decode cX4_coin 28 = .ok (.invokevirtual 99, 3) := by decide +kernel
theorem dX4_coin_31 : decode cX4_coin 31 = .ok (.goto 8, 3) := by decide +kernel
theorem dX4_coin_34 : decode cX4_coin 34 = .ok (.aload_n 0, 1) := by decide +kernel
theorem dX4_coin_35 : decode cX4_coin 35 = .ok (.iload_n 1, 1) := by decide +kernel
theorem dX4_coin_36 : decode cX4_coin 36 = .ok (.invokevirtual 103, 3) := by decide +kernel
theorem dX4_coin_39 : decode cX4_coin 39 = .ok (.ireturn, 1) := by decide +kernel
theorem dX4_above_0 : decode cX4_above 0 = .ok (.iload_n 0, 1) := by decide +kernel
theorem dX4_above_1 : decode cX4_above 1 = .ok (.ifCond .ne 7, 3) := by decide +kernel
theorem dX4_above_4 : decode cX4_above 4 = .ok (.iconst (-1), 1) := by decide +kernel
theorem dX4_above_5 : decode cX4_above 5 = .ok (.goto 32, 3) := by decide +kernel
theorem dX4_above_8 : decode cX4_above 8 = .ok (.iload_n 0, 1) := by decide +kernel
theorem dX4_above_9 : decode cX4_above 9 = .ok (.iconst 3, 1) := by decide +kernel
theorem dX4_above_10 : decode cX4_above 10 = .ok (.if_icmp .ne 7, 3) := by decide +kernel
theorem dX4_above_13 : decode cX4_above 13 = .ok (.iconst 1, 1) := by decide +kernel
theorem dX4_above_14 : decode cX4_above 14 = .ok (.goto 23, 3) := by decide +kernel
theorem dX4_above_17 : decode cX4_above 17 = .ok (.iload_n 0, 1) := by decide +kernel
theorem dX4_above_18 : decode cX4_above 18 = .ok (.iconst 4, 1) := by decide +kernel
theorem dX4_above_19 : decode cX4_above 19 = .ok (.if_icmp .ne 7, 3) := by decide +kernel
theorem dX4_above_22 : decode cX4_above 22 = .ok (.iconst 2, 1) := by decide +kernel
theorem dX4_above_23 : decode cX4_above 23 = .ok (.goto 14, 3) := by decide +kernel
theorem dX4_above_26 : decode cX4_above 26 = .ok (.iload_n 0, 1) := by decide +kernel
theorem dX4_above_27 : decode cX4_above 27 = .ok (.bipush 6, 2) := by decide +kernel
theorem dX4_above_29 : decode cX4_above 29 = .ok (.if_icmp .ne 7, 3) := by decide +kernel
theorem dX4_above_32 : decode cX4_above 32 = .ok (.iconst 5, 1) := by decide +kernel
theorem dX4_above_33 : decode cX4_above 33 = .ok (.goto 4, 3) := by decide +kernel
theorem dX4_above_36 : decode cX4_above 36 = .ok (.iconst 0, 1) := by decide +kernel
theorem dX4_above_37 : decode cX4_above 37 = .ok (.ireturn, 1) := by decide +kernel
theorem dX4_isUnder_0 : decode cX4_isUnder 0 = .ok (.iload_n 0, 1) := by decide +kernel
theorem dX4_isUnder_1 : decode cX4_isUnder 1 = .ok (.istore_n 2, 1) := by decide +kernel
theorem dX4_isUnder_2 : decode cX4_isUnder 2 = .ok (.iload_n 2, 1) := by decide +kernel
theorem dX4_isUnder_3 : decode cX4_isUnder 3 = .ok (.ifCond .lt 16, 3) := by decide +kernel
theorem dX4_isUnder_6 : decode cX4_isUnder 6 = .ok (.iload_n 2, 1) := by decide +kernel
theorem dX4_isUnder_7 : decode cX4_isUnder 7 = .ok (.iload_n 1, 1) := by decide +kernel
theorem dX4_isUnder_8 : decode cX4_isUnder 8 = .ok (.if_icmp .eq 11, 3) := by decide +kernel
theorem dX4_isUnder_11 : decode cX4_isUnder 11 = .ok (.iload_n 2, 1) := by decide +kernel
theorem dX4_isUnder_12 : decode cX4_isUnder 12 = .ok (.invokestatic 106, 3) := by decide +kernel
theorem dX4_isUnder_15 : decode cX4_isUnder 15 = .ok (.istore_n 2, 1) := by decide +kernel
theorem dX4_isUnder_16 : decode cX4_isUnder 16 = .ok (.goto (-14), 3) := by decide +kernel
theorem dX4_isUnder_19 : decode cX4_isUnder 19 = .ok (.iload_n 2, 1) := by decide +kernel
theorem dX4_isUnder_20 : decode cX4_isUnder 20 = .ok (.ifCond .lt 7, 3) := by decide +kernel
theorem dX4_isUnder_23 : decode cX4_isUnder 23 = .ok (.iconst 1, 1) := by decide +kernel
theorem dX4_isUnder_24 : decode cX4_isUnder 24 = .ok (.goto 4, 3) := by decide +kernel
theorem dX4_isUnder_27 : decode cX4_isUnder 27 = .ok (.iconst 0, 1) := by decide +kernel
theorem dX4_isUnder_28 : decode cX4_isUnder 28 = .ok (.ireturn, 1) := by decide +kernel
theorem dX4_kindOf_0 : decode cX4_kindOf 0 = .ok (.aload_n 0, 1) := by decide +kernel
theorem dX4_kindOf_1 : decode cX4_kindOf 1 = .ok (.getfield 9, 3) := by decide +kernel
theorem dX4_kindOf_4 : decode cX4_kindOf 4 = .ok (.bipush 17, 2) := by decide +kernel
theorem dX4_kindOf_6 : decode cX4_kindOf 6 = .ok (.iload_n 1, 1) := by decide +kernel
theorem dX4_kindOf_7 : decode cX4_kindOf 7 = .ok (.iadd, 1) := by decide +kernel
theorem dX4_kindOf_8 : decode cX4_kindOf 8 = .ok (.iaload, 1) := by decide +kernel
theorem dX4_kindOf_9 : decode cX4_kindOf 9 = .ok (.ireturn, 1) := by decide +kernel
theorem dX4_worth_0 : decode cX4_worth 0 = .ok (.aload_n 0, 1) := by decide +kernel
theorem dX4_worth_1 : decode cX4_worth 1 = .ok (.iload_n 1, 1) := by decide +kernel
theorem dX4_worth_2 : decode cX4_worth 2 = .ok (.invokevirtual 109, 3) := by decide +kernel
theorem dX4_worth_5 : decode cX4_worth 5 = .ok (.tableswitch 47 0 4 #[35, 37, 39, 42, 44], 35) := by decide +kernel
theorem dX4_worth_40 : decode cX4_worth 40 = .ok (.iconst 1, 1) := by decide +kernel
theorem dX4_worth_41 : decode cX4_worth 41 = .ok (.ireturn, 1) := by decide +kernel
theorem dX4_worth_42 : decode cX4_worth 42 = .ok (.iconst 2, 1) := by decide +kernel
theorem dX4_worth_43 : decode cX4_worth 43 = .ok (.ireturn, 1) := by decide +kernel
theorem dX4_worth_44 : decode cX4_worth 44 = .ok (.bipush 50, 2) := by decide +kernel
theorem dX4_worth_46 : decode cX4_worth 46 = .ok (.ireturn, 1) := by decide +kernel
theorem dX4_worth_47 : decode cX4_worth 47 = .ok (.iconst 5, 1) := by decide +kernel
theorem dX4_worth_48 : decode cX4_worth 48 = .ok (.ireturn, 1) := by decide +kernel
theorem dX4_worth_49 : decode cX4_worth 49 = .ok (.bipush 25, 2) := by decide +kernel
theorem dX4_worth_51 : decode cX4_worth 51 = .ok (.ireturn, 1) := by decide +kernel
theorem dX4_worth_52 : decode cX4_worth 52 = .ok (.iconst 0, 1) := by decide +kernel
theorem dX4_worth_53 : decode cX4_worth 53 = .ok (.ireturn, 1) := by decide +kernel
theorem dX4_weighs_0 : decode cX4_weighs 0 = .ok (.aload_n 0, 1) := by decide +kernel
theorem dX4_weighs_1 : decode cX4_weighs 1 = .ok (.iload_n 1, 1) := by decide +kernel
theorem dX4_weighs_2 : decode cX4_weighs 2 = .ok (.invokevirtual 109, 3) := by decide +kernel
theorem dX4_weighs_5 : decode cX4_weighs 5 = .ok (.istore_n 2, 1) := by decide +kernel
theorem dX4_weighs_6 : decode cX4_weighs 6 = .ok (.iconst 1, 1) := by decide +kernel
theorem dX4_weighs_7 : decode cX4_weighs 7 = .ok (.iload_n 2, 1) := by decide +kernel
theorem dX4_weighs_8 : decode cX4_weighs 8 = .ok (.iconst 2, 1) := by decide +kernel
theorem dX4_weighs_9 : decode cX4_weighs 9 = .ok (.invokestatic 112, 3) := by decide +kernel
theorem dX4_weighs_12 : decode cX4_weighs 12 = .ok (.ifCond .eq 7, 3) := by decide +kernel
theorem dX4_weighs_15 : decode cX4_weighs 15 = .ok (.iconst 4, 1) := by decide +kernel
theorem dX4_weighs_16 : decode cX4_weighs 16 = .ok (.goto 28, 3) := by decide +kernel
theorem dX4_weighs_19 : decode cX4_weighs 19 = .ok (.iload_n 2, 1) := by decide +kernel
theorem dX4_weighs_20 : decode cX4_weighs 20 = .ok (.iconst 1, 1) := by decide +kernel
theorem dX4_weighs_21 : decode cX4_weighs 21 = .ok (.if_icmp .ne 7, 3) := by decide +kernel
theorem dX4_weighs_24 : decode cX4_weighs 24 = .ok (.iconst 1, 1) := by decide +kernel
theorem dX4_weighs_25 : decode cX4_weighs 25 = .ok (.goto 19, 3) := by decide +kernel
theorem dX4_weighs_28 : decode cX4_weighs 28 = .ok (.iload_n 2, 1) := by decide +kernel
theorem dX4_weighs_29 : decode cX4_weighs 29 = .ok (.iconst 3, 1) := by decide +kernel
theorem dX4_weighs_30 : decode cX4_weighs 30 = .ok (.if_icmp .eq 9, 3) := by decide +kernel
theorem dX4_weighs_33 : decode cX4_weighs 33 = .ok (.iload_n 2, 1) := by decide +kernel
theorem dX4_weighs_34 : decode cX4_weighs 34 = .ok (.bipush 6, 2) := by decide +kernel
theorem dX4_weighs_36 : decode cX4_weighs 36 = .ok (.if_icmp .ne 7, 3) := by decide +kernel
theorem dX4_weighs_39 : decode cX4_weighs 39 = .ok (.iconst 2, 1) := by decide +kernel
theorem dX4_weighs_40 : decode cX4_weighs 40 = .ok (.goto 4, 3) := by decide +kernel
theorem dX4_weighs_43 : decode cX4_weighs 43 = .ok (.iconst 0, 1) := by decide +kernel
theorem dX4_weighs_44 : decode cX4_weighs 44 = .ok (.iadd, 1) := by decide +kernel
theorem dX4_weighs_45 : decode cX4_weighs 45 = .ok (.ireturn, 1) := by decide +kernel
theorem dX4_slides_0 : decode cX4_slides 0 = .ok (.aload_n 0, 1) := by decide +kernel
theorem dX4_slides_1 : decode cX4_slides 1 = .ok (.iload_n 1, 1) := by decide +kernel
theorem dX4_slides_2 : decode cX4_slides 2 = .ok (.invokevirtual 109, 3) := by decide +kernel
theorem dX4_slides_5 : decode cX4_slides 5 = .ok (.iconst 2, 1) := by decide +kernel
theorem dX4_slides_6 : decode cX4_slides 6 = .ok (.if_icmp .eq 17, 3) := by decide +kernel
theorem dX4_slides_9 : decode cX4_slides 9 = .ok (.aload_n 0, 1) := by decide +kernel
theorem dX4_slides_10 : decode cX4_slides 10 = .ok (.iload_n 1, 1) := by decide +kernel
theorem dX4_slides_11 : decode cX4_slides 11 = .ok (.invokevirtual 109, 3) := by decide +kernel
theorem dX4_slides_14 : decode cX4_slides 14 = .ok (.bipush 6, 2) := by decide +kernel
theorem dX4_slides_16 : decode cX4_slides 16 = .ok (.if_icmp .eq 7, 3) := by decide +kernel
theorem dX4_slides_19 : decode cX4_slides 19 = .ok (.iconst 1, 1) := by decide +kernel
theorem dX4_slides_20 : decode cX4_slides 20 = .ok (.goto 4, 3) := by decide +kernel
theorem dX4_slides_23 : decode cX4_slides 23 = .ok (.iconst 0, 1) := by decide +kernel
theorem dX4_slides_24 : decode cX4_slides 24 = .ok (.ireturn, 1) := by decide +kernel
theorem dX4_of_0 : decode cX4_of 0 = .ok (.aload_n 0, 1) := by decide +kernel
theorem dX4_of_1 : decode cX4_of 1 = .ok (.iload_n 1, 1) := by decide +kernel
theorem dX4_of_2 : decode cX4_of 2 = .ok (.invokevirtual 116, 3) := by decide +kernel
theorem dX4_of_5 : decode cX4_of 5 = .ok (.ifCond .eq 12, 3) := by decide +kernel
theorem dX4_of_8 : decode cX4_of 8 = .ok (.iload_n 2, 1) := by decide +kernel
theorem dX4_of_9 : decode cX4_of 9 = .ok (.iconst 0, 1) := by decide +kernel
theorem dX4_of_10 : decode cX4_of 10 = .ok (.iconst 5, 1) := by decide +kernel
theorem dX4_of_11 : decode cX4_of 11 = .ok (.invokestatic 77, 3) := by decide +kernel
theorem dX4_of_14 : decode cX4_of 14 = .ok (.ifCond .ne 10, 3) := by decide +kernel
theorem dX4_of_17 : decode cX4_of 17 = .ok (.aload_n 0, 1) := by decide +kernel
theorem dX4_of_18 : decode cX4_of 18 = .ok (.ldc 72, 2) := by decide +kernel
theorem dX4_of_20 : decode cX4_of 20 = .ok (.invokevirtual 99, 3) := by decide +kernel
theorem dX4_of_23 : decode cX4_of 23 = .ok (.ireturn, 1) := by decide +kernel
theorem dX4_of_24 : decode cX4_of 24 = .ok (.aload_n 0, 1) := by decide +kernel
theorem dX4_of_25 : decode cX4_of 25 = .ok (.getfield 9, 3) := by decide +kernel
theorem dX4_of_28 : decode cX4_of 28 = .ok (.bipush 41, 2) := by decide +kernel
theorem dX4_of_30 : decode cX4_of 30 = .ok (.iload_n 1, 1) := by decide +kernel
theorem dX4_of_31 : decode cX4_of 31 = .ok (.iadd, 1) := by decide +kernel
theorem dX4_of_32 : decode cX4_of 32 = .ok (.iaload, 1) := by decide +kernel
theorem dX4_of_33 : decode cX4_of 33 = .ok (.istore_n 3, 1) := by decide +kernel
theorem dX4_of_34 : decode cX4_of 34 = .ok (.iconst 0, 1) := by decide +kernel
theorem dX4_of_35 : decode cX4_of 35 = .ok (.istore 4, 2) := by decide +kernel
theorem dX4_of_37 : decode cX4_of 37 = .ok (.iload_n 2, 1) := by decide +kernel
theorem dX4_of_38 : decode cX4_of 38 = .ok (.tableswitch 122 0 4 #[34, 40, 42, 110, 116], 34) := by decide +kernel
theorem dX4_of_72 : decode cX4_of 72 = .ok (.aload_n 0, 1) := by decide +kernel
theorem dX4_of_73 : decode cX4_of 73 = .ok (.iload_n 1, 1) := by decide +kernel
theorem dX4_of_74 : decode cX4_of 74 = .ok (.invokevirtual 109, 3) := by decide +kernel
theorem dX4_of_77 : decode cX4_of 77 = .ok (.ireturn, 1) := by decide +kernel
theorem dX4_of_78 : decode cX4_of 78 = .ok (.iload_n 3, 1) := by decide +kernel
theorem dX4_of_79 : decode cX4_of 79 = .ok (.ireturn, 1) := by decide +kernel
theorem dX4_of_80 : decode cX4_of 80 = .ok (.iconst 0, 1) := by decide +kernel
theorem dX4_of_81 : decode cX4_of 81 = .ok (.istore 5, 2) := by decide +kernel
theorem dX4_of_83 : decode cX4_of 83 = .ok (.iload_n 3, 1) := by decide +kernel
theorem dX4_of_84 : decode cX4_of 84 = .ok (.bipush 100, 2) := by decide +kernel
theorem dX4_of_86 : decode cX4_of 86 = .ok (.if_icmp .ge 59, 3) := by decide +kernel
theorem dX4_of_89 : decode cX4_of 89 = .ok (.iload 5, 2) := by decide +kernel
theorem dX4_of_91 : decode cX4_of 91 = .ok (.aload_n 0, 1) := by decide +kernel
theorem dX4_of_92 : decode cX4_of 92 = .ok (.iload_n 3, 1) := by decide +kernel
theorem dX4_of_93 : decode cX4_of 93 = .ok (.bipush 10, 2) := by decide +kernel
theorem dX4_of_95 : decode cX4_of 95 = .ok (.idiv, 1) := by decide +kernel
theorem dX4_of_96 : decode cX4_of 96 = .ok (.iload_n 3, 1) := by decide +kernel
theorem dX4_of_97 : decode cX4_of 97 = .ok (.bipush 10, 2) := by decide +kernel
theorem dX4_of_99 : decode cX4_of 99 = .ok (.irem, 1) := by decide +kernel
theorem dX4_of_100 : decode cX4_of 100 = .ok (.invokestatic 119, 3) := by decide +kernel
theorem dX4_of_103 : decode cX4_of 103 = .ok (.invokevirtual 85, 3) := by decide +kernel
theorem dX4_of_106 : decode cX4_of 106 = .ok (.if_icmp .ge 39, 3) := by decide +kernel
theorem dX4_of_109 : decode cX4_of 109 = .ok (.aload_n 0, 1) := by decide +kernel
theorem dX4_of_110 : decode cX4_of 110 = .ok (.iload_n 3, 1) := by decide +kernel
theorem dX4_of_111 : decode cX4_of 111 = .ok (.bipush 10, 2) := by decide +kernel
theorem dX4_of_113 : decode cX4_of 113 = .ok (.idiv, 1) := by decide +kernel
theorem dX4_of_114 : decode cX4_of 114 = .ok (.iload_n 3, 1) := by decide +kernel
theorem dX4_of_115 : decode cX4_of 115 = .ok (.bipush 10, 2) := by decide +kernel
theorem dX4_of_117 : decode cX4_of 117 = .ok (.irem, 1) := by decide +kernel
theorem dX4_of_118 : decode cX4_of 118 = .ok (.invokestatic 119, 3) := by decide +kernel
theorem dX4_of_121 : decode cX4_of 121 = .ok (.iload 5, 2) := by decide +kernel
theorem dX4_of_123 : decode cX4_of 123 = .ok (.invokevirtual 89, 3) := by decide +kernel
theorem dX4_of_126 : decode cX4_of 126 = .ok (.iload_n 1, 1) := by decide +kernel
theorem dX4_of_127 : decode cX4_of 127 = .ok (.if_icmp .ne 8, 3) := by decide +kernel
theorem dX4_of_130 : decode cX4_of 130 = .ok (.iload 5, 2) := by decide +kernel
theorem dX4_of_132 : decode cX4_of 132 = .ok (.goto 5, 3) := by decide +kernel
theorem dX4_of_135 : decode cX4_of 135 = .ok (.iload 4, 2) := by decide +kernel
theorem dX4_of_137 : decode cX4_of 137 = .ok (.istore 4, 2) := by decide +kernel
theorem dX4_of_139 : decode cX4_of 139 = .ok (.iinc 5 1, 3) := by decide +kernel
theorem dX4_of_142 : decode cX4_of 142 = .ok (.goto (-59), 3) := by decide +kernel
theorem dX4_of_145 : decode cX4_of 145 = .ok (.iload 4, 2) := by decide +kernel
theorem dX4_of_147 : decode cX4_of 147 = .ok (.ireturn, 1) := by decide +kernel
theorem dX4_of_148 : decode cX4_of 148 = .ok (.aload_n 0, 1) := by decide +kernel
theorem dX4_of_149 : decode cX4_of 149 = .ok (.iload_n 1, 1) := by decide +kernel
theorem dX4_of_150 : decode cX4_of 150 = .ok (.invokevirtual 122, 3) := by decide +kernel
theorem dX4_of_153 : decode cX4_of 153 = .ok (.ireturn, 1) := by decide +kernel
theorem dX4_of_154 : decode cX4_of 154 = .ok (.aload_n 0, 1) := by decide +kernel
theorem dX4_of_155 : decode cX4_of 155 = .ok (.iload_n 1, 1) := by decide +kernel
theorem dX4_of_156 : decode cX4_of 156 = .ok (.invokevirtual 125, 3) := by decide +kernel
theorem dX4_of_159 : decode cX4_of 159 = .ok (.ireturn, 1) := by decide +kernel
theorem dX4_of_160 : decode cX4_of 160 = .ok (.aload_n 0, 1) := by decide +kernel
theorem dX4_of_161 : decode cX4_of 161 = .ok (.iload_n 1, 1) := by decide +kernel
theorem dX4_of_162 : decode cX4_of 162 = .ok (.invokevirtual 128, 3) := by decide +kernel
theorem dX4_of_165 : decode cX4_of 165 = .ok (.ifCond .eq 7, 3) := by decide +kernel
theorem dX4_of_168 : decode cX4_of 168 = .ok (.iconst 1, 1) := by decide +kernel
theorem dX4_of_169 : decode cX4_of 169 = .ok (.goto 4, 3) := by decide +kernel
theorem dX4_of_172 : decode cX4_of 172 = .ok (.iconst 0, 1) := by decide +kernel
theorem dX4_of_173 : decode cX4_of 173 = .ok (.ireturn, 1) := by decide +kernel
theorem dX4_change_0 : decode cX4_change 0 = .ok (.aload_n 0, 1) := by decide +kernel
theorem dX4_change_1 : decode cX4_change 1 = .ok (.iload_n 1, 1) := by decide +kernel
theorem dX4_change_2 : decode cX4_change 2 = .ok (.invokevirtual 116, 3) := by decide +kernel
theorem dX4_change_5 : decode cX4_change 5 = .ok (.ifCond .eq 22, 3) := by decide +kernel
theorem dX4_change_8 : decode cX4_change 8 = .ok (.iload_n 2, 1) := by decide +kernel
theorem dX4_change_9 : decode cX4_change 9 = .ok (.invokestatic 96, 3) := by decide +kernel
theorem dX4_change_12 : decode cX4_change 12 = .ok (.ifCond .eq 15, 3) := by decide +kernel
theorem dX4_change_15 : decode cX4_change 15 = .ok (.aload_n 0, 1) := by decide +kernel
theorem dX4_change_16 : decode cX4_change 16 = .ok (.bipush 17, 2) := by decide +kernel
theorem dX4_change_18 : decode cX4_change 18 = .ok (.iload_n 1, 1) := by decide +kernel
theorem dX4_change_19 : decode cX4_change 19 = .ok (.iadd, 1) := by decide +kernel
theorem dX4_change_20 : decode cX4_change 20 = .ok (.iload_n 2, 1) := by decide +kernel
theorem dX4_change_21 : decode cX4_change 21 = .ok (.invokevirtual 131, 3) := by decide +kernel
theorem dX4_change_24 : decode cX4_change 24 = .ok (.goto 9, 3) := by decide +kernel
theorem dX4_change_27 : decode cX4_change 27 = .ok (.aload_n 0, 1) := by decide +kernel
theorem dX4_change_28 : decode cX4_change 28 = .ok (.ldc 72, 2) := by decide +kernel
theorem dX4_change_30 : decode cX4_change 30 = .ok (.invokevirtual 99, 3) := by decide +kernel
theorem dX4_change_33 : decode cX4_change 33 = .ok (.ireturn, 1) := by decide +kernel
theorem dX4_lay_0 : decode cX4_lay 0 = .ok (.aload_n 0, 1) := by decide +kernel
theorem dX4_lay_1 : decode cX4_lay 1 = .ok (.iload_n 1, 1) := by decide +kernel
theorem dX4_lay_2 : decode cX4_lay 2 = .ok (.invokevirtual 116, 3) := by decide +kernel
theorem dX4_lay_5 : decode cX4_lay 5 = .ok (.ifCond .eq 11, 3) := by decide +kernel
theorem dX4_lay_8 : decode cX4_lay 8 = .ok (.iload_n 2, 1) := by decide +kernel
theorem dX4_lay_9 : decode cX4_lay 9 = .ok (.iload_n 3, 1) := by decide +kernel
theorem dX4_lay_10 : decode cX4_lay 10 = .ok (.invokestatic 134, 3) := by decide +kernel
theorem dX4_lay_13 : decode cX4_lay 13 = .ok (.ifCond .ne 10, 3) := by decide +kernel
theorem dX4_lay_16 : decode cX4_lay 16 = .ok (.aload_n 0, 1) := by decide +kernel
theorem dX4_lay_17 : decode cX4_lay 17 = .ok (.ldc 72, 2) := by decide +kernel
theorem dX4_lay_19 : decode cX4_lay 19 = .ok (.invokevirtual 99, 3) := by decide +kernel
theorem dX4_lay_22 : decode cX4_lay 22 = .ok (.ireturn, 1) := by decide +kernel
theorem dX4_lay_23 : decode cX4_lay 23 = .ok (.aload_n 0, 1) := by decide +kernel
theorem dX4_lay_24 : decode cX4_lay 24 = .ok (.getfield 9, 3) := by decide +kernel
theorem dX4_lay_27 : decode cX4_lay 27 = .ok (.bipush 41, 2) := by decide +kernel
theorem dX4_lay_29 : decode cX4_lay 29 = .ok (.iload_n 1, 1) := by decide +kernel
theorem dX4_lay_30 : decode cX4_lay 30 = .ok (.iadd, 1) := by decide +kernel
theorem dX4_lay_31 : decode cX4_lay 31 = .ok (.iaload, 1) := by decide +kernel
theorem dX4_lay_32 : decode cX4_lay 32 = .ok (.bipush 100, 2) := by decide +kernel
theorem dX4_lay_34 : decode cX4_lay 34 = .ok (.if_icmp .eq 10, 3) := by decide +kernel
theorem dX4_lay_37 : decode cX4_lay 37 = .ok (.aload_n 0, 1) := by decide +kernel
theorem dX4_lay_38 : decode cX4_lay 38 = .ok (.ldc 137, 2) := by decide +kernel
theorem dX4_lay_40 : decode cX4_lay 40 = .ok (.invokevirtual 99, 3) := by decide +kernel
theorem dX4_lay_43 : decode cX4_lay 43 = .ok (.ireturn, 1) := by decide +kernel
theorem dX4_lay_44 : decode cX4_lay 44 = .ok (.iload_n 2, 1) := by decide +kernel
theorem dX4_lay_45 : decode cX4_lay 45 = .ok (.iload_n 3, 1) := by decide +kernel
theorem dX4_lay_46 : decode cX4_lay 46 = .ok (.invokestatic 119, 3) := by decide +kernel
theorem dX4_lay_49 : decode cX4_lay 49 = .ok (.istore 4, 2) := by decide +kernel
theorem dX4_lay_51 : decode cX4_lay 51 = .ok (.aload_n 0, 1) := by decide +kernel
theorem dX4_lay_52 : decode cX4_lay 52 = .ok (.iload 4, 2) := by decide +kernel
theorem dX4_lay_54 : decode cX4_lay 54 = .ok (.invokevirtual 85, 3) := by decide +kernel
theorem dX4_lay_57 : decode cX4_lay 57 = .ok (.iconst 4, 1) := by decide +kernel
theorem dX4_lay_58 : decode cX4_lay 58 = .ok (.if_icmp .ne 10, 3) := by decide +kernel
theorem dX4_lay_61 : decode cX4_lay 61 = .ok (.aload_n 0, 1) := by decide +kernel
theorem dX4_lay_62 : decode cX4_lay 62 = .ok (.ldc 102, 2) := by decide +kernel
theorem dX4_lay_64 : decode cX4_lay 64 = .ok (.invokevirtual 99, 3) := by decide +kernel
theorem dX4_lay_67 : decode cX4_lay 67 = .ok (.ireturn, 1) := by decide +kernel
theorem dX4_lay_68 : decode cX4_lay 68 = .ok (.aload_n 0, 1) := by decide +kernel
theorem dX4_lay_69 : decode cX4_lay 69 = .ok (.iload_n 1, 1) := by decide +kernel
theorem dX4_lay_70 : decode cX4_lay 70 = .ok (.iload 4, 2) := by decide +kernel
theorem dX4_lay_72 : decode cX4_lay 72 = .ok (.invokevirtual 138, 3) := by decide +kernel
theorem dX4_lay_75 : decode cX4_lay 75 = .ok (.aload_n 0, 1) := by decide +kernel
theorem dX4_lay_76 : decode cX4_lay 76 = .ok (.iload 4, 2) := by decide +kernel
theorem dX4_lay_78 : decode cX4_lay 78 = .ok (.invokevirtual 85, 3) := by decide +kernel
theorem dX4_lay_81 : decode cX4_lay 81 = .ok (.ireturn, 1) := by decide +kernel
theorem dX4_lift_0 : decode cX4_lift 0 = .ok (.iload_n 1, 1) := by decide +kernel
theorem dX4_lift_1 : decode cX4_lift 1 = .ok (.iload_n 2, 1) := by decide +kernel
theorem dX4_lift_2 : decode cX4_lift 2 = .ok (.invokestatic 134, 3) := by decide +kernel
theorem dX4_lift_5 : decode cX4_lift 5 = .ok (.ifCond .ne 10, 3) := by decide +kernel
theorem dX4_lift_8 : decode cX4_lift 8 = .ok (.aload_n 0, 1) := by decide +kernel
theorem dX4_lift_9 : decode cX4_lift 9 = .ok (.ldc 72, 2) := by decide +kernel
theorem dX4_lift_11 : decode cX4_lift 11 = .ok (.invokevirtual 99, 3) := by decide +kernel
theorem dX4_lift_14 : decode cX4_lift 14 = .ok (.ireturn, 1) := by decide +kernel
theorem dX4_lift_15 : decode cX4_lift 15 = .ok (.iload_n 1, 1) := by decide +kernel
theorem dX4_lift_16 : decode cX4_lift 16 = .ok (.iload_n 2, 1) := by decide +kernel
theorem dX4_lift_17 : decode cX4_lift 17 = .ok (.invokestatic 119, 3) := by decide +kernel
theorem dX4_lift_20 : decode cX4_lift 20 = .ok (.istore_n 3, 1) := by decide +kernel
theorem dX4_lift_21 : decode cX4_lift 21 = .ok (.aload_n 0, 1) := by decide +kernel
theorem dX4_lift_22 : decode cX4_lift 22 = .ok (.iload_n 3, 1) := by decide +kernel
theorem dX4_lift_23 : decode cX4_lift 23 = .ok (.invokevirtual 85, 3) := by decide +kernel
theorem dX4_lift_26 : decode cX4_lift 26 = .ok (.ifCond .ne 10, 3) := by decide +kernel
theorem dX4_lift_29 : decode cX4_lift 29 = .ok (.aload_n 0, 1) := by decide +kernel
theorem dX4_lift_30 : decode cX4_lift 30 = .ok (.ldc 142, 2) := by decide +kernel
theorem dX4_lift_32 : decode cX4_lift 32 = .ok (.invokevirtual 99, 3) := by decide +kernel
theorem dX4_lift_35 : decode cX4_lift 35 = .ok (.ireturn, 1) := by decide +kernel
theorem dX4_lift_36 : decode cX4_lift 36 = .ok (.aload_n 0, 1) := by decide +kernel
theorem dX4_lift_37 : decode cX4_lift 37 = .ok (.iload_n 3, 1) := by decide +kernel
theorem dX4_lift_38 : decode cX4_lift 38 = .ok (.invokevirtual 143, 3) := by decide +kernel
theorem dX4_lift_41 : decode cX4_lift 41 = .ok (.istore 4, 2) := by decide +kernel
theorem dX4_lift_43 : decode cX4_lift 43 = .ok (.aload_n 0, 1) := by decide +kernel
theorem dX4_lift_44 : decode cX4_lift 44 = .ok (.getfield 9, 3) := by decide +kernel
theorem dX4_lift_47 : decode cX4_lift 47 = .ok (.bipush 41, 2) := by decide +kernel
theorem dX4_lift_49 : decode cX4_lift 49 = .ok (.iload 4, 2) := by decide +kernel
theorem dX4_lift_51 : decode cX4_lift 51 = .ok (.iadd, 1) := by decide +kernel
theorem dX4_lift_52 : decode cX4_lift 52 = .ok (.bipush 100, 2) := by decide +kernel
theorem dX4_lift_54 : decode cX4_lift 54 = .ok (.iastore, 1) := by decide +kernel
theorem dX4_lift_55 : decode cX4_lift 55 = .ok (.iload 4, 2) := by decide +kernel
theorem dX4_lift_57 : decode cX4_lift 57 = .ok (.ireturn, 1) := by decide +kernel
theorem dX4_height_0 : decode cX4_height 0 = .ok (.iload_n 1, 1) := by decide +kernel
theorem dX4_height_1 : decode cX4_height 1 = .ok (.iload_n 2, 1) := by decide +kernel
theorem dX4_height_2 : decode cX4_height 2 = .ok (.invokestatic 134, 3) := by decide +kernel
theorem dX4_height_5 : decode cX4_height 5 = .ok (.ifCond .eq 15, 3) := by decide +kernel
theorem dX4_height_8 : decode cX4_height 8 = .ok (.aload_n 0, 1) := by decide +kernel
theorem dX4_height_9 : decode cX4_height 9 = .ok (.iload_n 1, 1) := by decide +kernel
theorem dX4_height_10 : decode cX4_height 10 = .ok (.iload_n 2, 1) := by decide +kernel
theorem dX4_height_11 : decode cX4_height 11 = .ok (.invokestatic 119, 3) := by decide +kernel
theorem dX4_height_14 : decode cX4_height 14 = .ok (.invokevirtual 85, 3) := by decide +kernel
theorem dX4_height_17 : decode cX4_height 17 = .ok (.goto 9, 3) := by decide +kernel
theorem dX4_height_20 : decode cX4_height 20 = .ok (.aload_n 0, 1) := by decide +kernel
theorem dX4_height_21 : decode cX4_height 21 = .ok (.ldc 72, 2) := by decide +kernel
theorem dX4_height_23 : decode cX4_height 23 = .ok (.invokevirtual 99, 3) := by decide +kernel
theorem dX4_height_26 : decode cX4_height 26 = .ok (.ireturn, 1) := by decide +kernel
theorem dX4_seen_0 : decode cX4_seen 0 = .ok (.iload_n 1, 1) := by decide +kernel
theorem dX4_seen_1 : decode cX4_seen 1 = .ok (.iload_n 2, 1) := by decide +kernel
theorem dX4_seen_2 : decode cX4_seen 2 = .ok (.invokestatic 134, 3) := by decide +kernel
theorem dX4_seen_5 : decode cX4_seen 5 = .ok (.ifCond .eq 12, 3) := by decide +kernel
theorem dX4_seen_8 : decode cX4_seen 8 = .ok (.iload_n 3, 1) := by decide +kernel
theorem dX4_seen_9 : decode cX4_seen 9 = .ok (.iconst 0, 1) := by decide +kernel
theorem dX4_seen_10 : decode cX4_seen 10 = .ok (.iconst 3, 1) := by decide +kernel
theorem dX4_seen_11 : decode cX4_seen 11 = .ok (.invokestatic 77, 3) := by decide +kernel
theorem dX4_seen_14 : decode cX4_seen 14 = .ok (.ifCond .ne 10, 3) := by decide +kernel
theorem dX4_seen_17 : decode cX4_seen 17 = .ok (.aload_n 0, 1) := by decide +kernel
theorem dX4_seen_18 : decode cX4_seen 18 = .ok (.ldc 72, 2) := by decide +kernel
theorem dX4_seen_20 : decode cX4_seen 20 = .ok (.invokevirtual 99, 3) := by decide +kernel
theorem dX4_seen_23 : decode cX4_seen 23 = .ok (.ireturn, 1) := by decide +kernel
theorem dX4_seen_24 : decode cX4_seen 24 = .ok (.iload_n 1, 1) := by decide +kernel
theorem dX4_seen_25 : decode cX4_seen 25 = .ok (.iload_n 2, 1) := by decide +kernel
theorem dX4_seen_26 : decode cX4_seen 26 = .ok (.invokestatic 119, 3) := by decide +kernel
theorem dX4_seen_29 : decode cX4_seen 29 = .ok (.istore 4, 2) := by decide +kernel
theorem dX4_seen_31 : decode cX4_seen 31 = .ok (.iload_n 3, 1) := by decide +kernel
theorem dX4_seen_32 : decode cX4_seen 32 = .ok (.aload_n 0, 1) := by decide +kernel
theorem dX4_seen_33 : decode cX4_seen 33 = .ok (.iload 4, 2) := by decide +kernel
theorem dX4_seen_35 : decode cX4_seen 35 = .ok (.invokevirtual 85, 3) := by decide +kernel
theorem dX4_seen_38 : decode cX4_seen 38 = .ok (.if_icmp .ge 13, 3) := by decide +kernel
theorem dX4_seen_41 : decode cX4_seen 41 = .ok (.aload_n 0, 1) := by decide +kernel
theorem dX4_seen_42 : decode cX4_seen 42 = .ok (.iload 4, 2) := by decide +kernel
theorem dX4_seen_44 : decode cX4_seen 44 = .ok (.iload_n 3, 1) := by decide +kernel
theorem dX4_seen_45 : decode cX4_seen 45 = .ok (.invokevirtual 89, 3) := by decide +kernel
theorem dX4_seen_48 : decode cX4_seen 48 = .ok (.goto 9, 3) := by decide +kernel
theorem dX4_seen_51 : decode cX4_seen 51 = .ok (.aload_n 0, 1) := by decide +kernel
theorem dX4_seen_52 : decode cX4_seen 52 = .ok (.ldc 142, 2) := by decide +kernel
theorem dX4_seen_54 : decode cX4_seen 54 = .ok (.invokevirtual 99, 3) := by decide +kernel
theorem dX4_seen_57 : decode cX4_seen 57 = .ok (.ireturn, 1) := by decide +kernel
theorem dX4_set_0 : decode cX4_set 0 = .ok (.iload_n 1, 1) := by decide +kernel
theorem dX4_set_1 : decode cX4_set 1 = .ok (.ifCond .ne 13, 3) := by decide +kernel
theorem dX4_set_4 : decode cX4_set 4 = .ok (.iload_n 2, 1) := by decide +kernel
theorem dX4_set_5 : decode cX4_set 5 = .ok (.iconst 0, 1) := by decide +kernel
theorem dX4_set_6 : decode cX4_set 6 = .ok (.bipush 60, 2) := by decide +kernel
theorem dX4_set_8 : decode cX4_set 8 = .ok (.invokestatic 77, 3) := by decide +kernel
theorem dX4_set_11 : decode cX4_set 11 = .ok (.ifCond .ne 32, 3) := by decide +kernel
theorem dX4_set_14 : decode cX4_set 14 = .ok (.iload_n 1, 1) := by decide +kernel
theorem dX4_set_15 : decode cX4_set 15 = .ok (.iconst 1, 1) := by decide +kernel
theorem dX4_set_16 : decode cX4_set 16 = .ok (.if_icmp .ne 13, 3) := by decide +kernel
theorem dX4_set_19 : decode cX4_set 19 = .ok (.iload_n 2, 1) := by decide +kernel
theorem dX4_set_20 : decode cX4_set 20 = .ok (.iconst 1, 1) := by decide +kernel
theorem dX4_set_21 : decode cX4_set 21 = .ok (.bipush 6, 2) := by decide +kernel
theorem dX4_set_23 : decode cX4_set 23 = .ok (.invokestatic 77, 3) := by decide +kernel
theorem dX4_set_26 : decode cX4_set 26 = .ok (.ifCond .ne 17, 3) := by decide +kernel
theorem dX4_set_29 : decode cX4_set 29 = .ok (.iload_n 1, 1) := by decide +kernel
theorem dX4_set_30 : decode cX4_set 30 = .ok (.iconst 2, 1) := by decide +kernel
theorem dX4_set_31 : decode cX4_set 31 = .ok (.if_icmp .ne 16, 3) := by decide +kernel
theorem dX4_set_34 : decode cX4_set 34 = .ok (.iload_n 2, 1) := by decide +kernel
theorem dX4_set_35 : decode cX4_set 35 = .ok (.iconst 0, 1) := by decide +kernel
theorem dX4_set_36 : decode cX4_set 36 = .ok (.iconst 3, 1) := by decide +kernel
theorem dX4_set_37 : decode cX4_set 37 = .ok (.invokestatic 77, 3) := by decide +kernel
theorem dX4_set_40 : decode cX4_set 40 = .ok (.ifCond .eq 7, 3) := by decide +kernel
theorem dX4_set_43 : decode cX4_set 43 = .ok (.iconst 1, 1) := by decide +kernel
theorem dX4_set_44 : decode cX4_set 44 = .ok (.goto 4, 3) := by decide +kernel
theorem dX4_set_47 : decode cX4_set 47 = .ok (.iconst 0, 1) := by decide +kernel
theorem dX4_set_48 : decode cX4_set 48 = .ok (.istore_n 3, 1) := by decide +kernel
theorem dX4_set_49 : decode cX4_set 49 = .ok (.iload_n 3, 1) := by decide +kernel
theorem dX4_set_50 : decode cX4_set 50 = .ok (.ifCond .eq 14, 3) := by decide +kernel
theorem dX4_set_53 : decode cX4_set 53 = .ok (.aload_n 0, 1) := by decide +kernel
theorem dX4_set_54 : decode cX4_set 54 = .ok (.iconst 1, 1) := by decide +kernel
theorem dX4_set_55 : decode cX4_set 55 = .ok (.iload_n 1, 1) := by decide +kernel
theorem dX4_set_56 : decode cX4_set 56 = .ok (.iadd, 1) := by decide +kernel
theorem dX4_set_57 : decode cX4_set 57 = .ok (.iload_n 2, 1) := by decide +kernel
theorem dX4_set_58 : decode cX4_set 58 = .ok (.invokevirtual 131, 3) := by decide +kernel
theorem dX4_set_61 : decode cX4_set 61 = .ok (.goto 9, 3) := by decide +kernel
theorem dX4_set_64 : decode cX4_set 64 = .ok (.aload_n 0, 1) := by decide +kernel
theorem dX4_set_65 : decode cX4_set 65 = .ok (.ldc 72, 2) := by decide +kernel
theorem dX4_set_67 : decode cX4_set 67 = .ok (.invokevirtual 99, 3) := by decide +kernel
theorem dX4_set_70 : decode cX4_set 70 = .ok (.ireturn, 1) := by decide +kernel
theorem dX4_goesOver_0 : decode cX4_goesOver 0 = .ok (.aload_n 0, 1) := by decide +kernel
theorem dX4_goesOver_1 : decode cX4_goesOver 1 = .ok (.getfield 9, 3) := by decide +kernel
theorem dX4_goesOver_4 : decode cX4_goesOver 4 = .ok (.bipush 41, 2) := by decide +kernel
theorem dX4_goesOver_6 : decode cX4_goesOver 6 = .ok (.iload_n 1, 1) := by decide +kernel
theorem dX4_goesOver_7 : decode cX4_goesOver 7 = .ok (.iadd, 1) := by decide +kernel
theorem dX4_goesOver_8 : decode cX4_goesOver 8 = .ok (.iload_n 2, 1) := by decide +kernel
theorem dX4_goesOver_9 : decode cX4_goesOver 9 = .ok (.aload_n 0, 1) := by decide +kernel
theorem dX4_goesOver_10 : decode cX4_goesOver 10 = .ok (.getfield 9, 3) := by decide +kernel
theorem dX4_goesOver_13 : decode cX4_goesOver 13 = .ok (.iconst 3, 1) := by decide +kernel
theorem dX4_goesOver_14 : decode cX4_goesOver 14 = .ok (.iaload, 1) := by decide +kernel
theorem dX4_goesOver_15 : decode cX4_goesOver 15 = .ok (.if_icmp .lt 16, 3) := by decide +kernel
theorem dX4_goesOver_18 : decode cX4_goesOver 18 = .ok (.iload_n 2, 1) := by decide +kernel
theorem dX4_goesOver_19 : decode cX4_goesOver 19 = .ok (.bipush 7, 2) := by decide +kernel
theorem dX4_goesOver_21 : decode cX4_goesOver 21 = .ok (.aload_n 0, 1) := by decide +kernel
theorem dX4_goesOver_22 : decode cX4_goesOver 22 = .ok (.getfield 9, 3) := by decide +kernel
theorem dX4_goesOver_25 : decode cX4_goesOver 25 = .ok (.iconst 3, 1) := by decide +kernel
theorem dX4_goesOver_26 : decode cX4_goesOver 26 = .ok (.iaload, 1) := by decide +kernel
theorem dX4_goesOver_27 : decode cX4_goesOver 27 = .ok (.isub, 1) := by decide +kernel
theorem dX4_goesOver_28 : decode cX4_goesOver 28 = .ok (.if_icmp .lt 8, 3) := by decide +kernel
theorem dX4_goesOver_31 : decode cX4_goesOver 31 = .ok (.bipush 102, 2) := by decide +kernel
theorem dX4_goesOver_33 : decode cX4_goesOver 33 = .ok (.goto 5, 3) := by decide +kernel
theorem dX4_goesOver_36 : decode cX4_goesOver 36 = .ok (.bipush 101, 2) := by decide +kernel
theorem dX4_goesOver_38 : decode cX4_goesOver 38 = .ok (.iastore, 1) := by decide +kernel
theorem dX4_goesOver_39 : decode cX4_goesOver 39 = .ok (.aload_n 0, 1) := by decide +kernel
theorem dX4_goesOver_40 : decode cX4_goesOver 40 = .ok (.dup, 1) := by decide +kernel
theorem dX4_goesOver_41 : decode cX4_goesOver 41 = .ok (.getfield 146, 3) := by decide +kernel
theorem dX4_goesOver_44 : decode cX4_goesOver 44 = .ok (.iconst 1, 1) := by decide +kernel
theorem dX4_goesOver_45 : decode cX4_goesOver 45 = .ok (.iadd, 1) := by decide +kernel
theorem dX4_goesOver_46 : decode cX4_goesOver 46 = .ok (.putfield 146, 3) := by decide +kernel
theorem dX4_goesOver_49 : decode cX4_goesOver 49 = .ok (.return_, 1) := by decide +kernel
theorem dX4_runOf_0 : decode cX4_runOf 0 = .ok (.iconst 0, 1) := by decide +kernel
theorem dX4_runOf_1 : decode cX4_runOf 1 = .ok (.istore_n 2, 1) := by decide +kernel
theorem dX4_runOf_2 : decode cX4_runOf 2 = .ok (.iload_n 2, 1) := by decide +kernel
theorem dX4_runOf_3 : decode cX4_runOf 3 = .ok (.bipush 6, 2) := by decide +kernel
theorem dX4_runOf_5 : decode cX4_runOf 5 = .ok (.if_icmp .ge 21, 3) := by decide +kernel
theorem dX4_runOf_8 : decode cX4_runOf 8 = .ok (.aload_n 0, 1) := by decide +kernel
theorem dX4_runOf_9 : decode cX4_runOf 9 = .ok (.iload_n 1, 1) := by decide +kernel
theorem dX4_runOf_10 : decode cX4_runOf 10 = .ok (.iload_n 2, 1) := by decide +kernel
theorem dX4_runOf_11 : decode cX4_runOf 11 = .ok (.invokestatic 119, 3) := by decide +kernel
theorem dX4_runOf_14 : decode cX4_runOf 14 = .ok (.invokevirtual 85, 3) := by decide +kernel
theorem dX4_runOf_17 : decode cX4_runOf 17 = .ok (.ifCond .le 9, 3) := by decide +kernel
theorem dX4_runOf_20 : decode cX4_runOf 20 = .ok (.iinc 2 1, 3) := by decide +kernel
theorem dX4_runOf_23 : decode cX4_runOf 23 = .ok (.goto (-21), 3) := by decide +kernel
theorem dX4_runOf_26 : decode cX4_runOf 26 = .ok (.iload_n 2, 1) := by decide +kernel
theorem dX4_runOf_27 : decode cX4_runOf 27 = .ok (.ireturn, 1) := by decide +kernel
theorem dX4_weightOf_0 : decode cX4_weightOf 0 = .ok (.iconst 0, 1) := by decide +kernel
theorem dX4_weightOf_1 : decode cX4_weightOf 1 = .ok (.istore_n 2, 1) := by decide +kernel
theorem dX4_weightOf_2 : decode cX4_weightOf 2 = .ok (.iconst 0, 1) := by decide +kernel
theorem dX4_weightOf_3 : decode cX4_weightOf 3 = .ok (.istore_n 3, 1) := by decide +kernel
theorem dX4_weightOf_4 : decode cX4_weightOf 4 = .ok (.iload_n 3, 1) := by decide +kernel
theorem dX4_weightOf_5 : decode cX4_weightOf 5 = .ok (.aload_n 0, 1) := by decide +kernel
theorem dX4_weightOf_6 : decode cX4_weightOf 6 = .ok (.iload_n 1, 1) := by decide +kernel
theorem dX4_weightOf_7 : decode cX4_weightOf 7 = .ok (.invokevirtual 150, 3) := by decide +kernel
theorem dX4_weightOf_10 : decode cX4_weightOf 10 = .ok (.if_icmp .ge 51, 3) := by decide +kernel
theorem dX4_weightOf_13 : decode cX4_weightOf 13 = .ok (.iload_n 1, 1) := by decide +kernel
theorem dX4_weightOf_14 : decode cX4_weightOf 14 = .ok (.iload_n 3, 1) := by decide +kernel
theorem dX4_weightOf_15 : decode cX4_weightOf 15 = .ok (.invokestatic 119, 3) := by decide +kernel
theorem dX4_weightOf_18 : decode cX4_weightOf 18 = .ok (.istore 4, 2) := by decide +kernel
theorem dX4_weightOf_20 : decode cX4_weightOf 20 = .ok (.iconst 0, 1) := by decide +kernel
theorem dX4_weightOf_21 : decode cX4_weightOf 21 = .ok (.istore 5, 2) := by decide +kernel
theorem dX4_weightOf_23 : decode cX4_weightOf 23 = .ok (.iload 5, 2) := by decide +kernel
theorem dX4_weightOf_25 : decode cX4_weightOf 25 = .ok (.aload_n 0, 1) := by decide +kernel
theorem dX4_weightOf_26 : decode cX4_weightOf 26 = .ok (.iload 4, 2) := by decide +kernel
theorem dX4_weightOf_28 : decode cX4_weightOf 28 = .ok (.invokevirtual 85, 3) := by decide +kernel
theorem dX4_weightOf_31 : decode cX4_weightOf 31 = .ok (.if_icmp .ge 24, 3) := by decide +kernel
theorem dX4_weightOf_34 : decode cX4_weightOf 34 = .ok (.iload_n 2, 1) := by decide +kernel
theorem dX4_weightOf_35 : decode cX4_weightOf 35 = .ok (.aload_n 0, 1) := by decide +kernel
theorem dX4_weightOf_36 : decode cX4_weightOf 36 = .ok (.aload_n 0, 1) := by decide +kernel
theorem dX4_weightOf_37 : decode cX4_weightOf 37 = .ok (.iload 4, 2) := by decide +kernel
theorem dX4_weightOf_39 : decode cX4_weightOf 39 = .ok (.iload 5, 2) := by decide +kernel
theorem dX4_weightOf_41 : decode cX4_weightOf 41 = .ok (.invokevirtual 89, 3) := by decide +kernel
theorem dX4_weightOf_44 : decode cX4_weightOf 44 = .ok (.invokevirtual 125, 3) := by decide +kernel
theorem dX4_weightOf_47 : decode cX4_weightOf 47 = .ok (.iadd, 1) := by decide +kernel
theorem dX4_weightOf_48 : decode cX4_weightOf 48 = .ok (.istore_n 2, 1) := by decide +kernel
theorem dX4_weightOf_49 : decode cX4_weightOf 49 = .ok (.iinc 5 1, 3) := by decide +kernel
theorem dX4_weightOf_52 : decode cX4_weightOf 52 = .ok (.goto (-29), 3) := by decide +kernel
theorem dX4_weightOf_55 : decode cX4_weightOf 55 = .ok (.iinc 3 1, 3) := by decide +kernel
theorem dX4_weightOf_58 : decode cX4_weightOf 58 = .ok (.goto (-54), 3) := by decide +kernel
theorem dX4_weightOf_61 : decode cX4_weightOf 61 = .ok (.iload_n 2, 1) := by decide +kernel
theorem dX4_weightOf_62 : decode cX4_weightOf 62 = .ok (.ireturn, 1) := by decide +kernel
theorem dX4_isMoved_0 : decode cX4_isMoved 0 = .ok (.aload_n 0, 1) := by decide +kernel
theorem dX4_isMoved_1 : decode cX4_isMoved 1 = .ok (.iload_n 1, 1) := by decide +kernel
theorem dX4_isMoved_2 : decode cX4_isMoved 2 = .ok (.invokevirtual 150, 3) := by decide +kernel
theorem dX4_isMoved_5 : decode cX4_isMoved 5 = .ok (.ifCond .le 21, 3) := by decide +kernel
theorem dX4_isMoved_8 : decode cX4_isMoved 8 = .ok (.aload_n 0, 1) := by decide +kernel
theorem dX4_isMoved_9 : decode cX4_isMoved 9 = .ok (.iload_n 1, 1) := by decide +kernel
theorem dX4_isMoved_10 : decode cX4_isMoved 10 = .ok (.invokevirtual 153, 3) := by decide +kernel
theorem dX4_isMoved_13 : decode cX4_isMoved 13 = .ok (.aload_n 0, 1) := by decide +kernel
theorem dX4_isMoved_14 : decode cX4_isMoved 14 = .ok (.getfield 9, 3) := by decide +kernel
theorem dX4_isMoved_17 : decode cX4_isMoved 17 = .ok (.iconst 1, 1) := by decide +kernel
theorem dX4_isMoved_18 : decode cX4_isMoved 18 = .ok (.iaload, 1) := by decide +kernel
theorem dX4_isMoved_19 : decode cX4_isMoved 19 = .ok (.if_icmp .gt 7, 3) := by decide +kernel
theorem dX4_isMoved_22 : decode cX4_isMoved 22 = .ok (.iconst 1, 1) := by decide +kernel
theorem dX4_isMoved_23 : decode cX4_isMoved 23 = .ok (.goto 4, 3) := by decide +kernel
theorem dX4_isMoved_26 : decode cX4_isMoved 26 = .ok (.iconst 0, 1) := by decide +kernel
theorem dX4_isMoved_27 : decode cX4_isMoved 27 = .ok (.ireturn, 1) := by decide +kernel
theorem dX4_goesOn_0 : decode cX4_goesOn 0 = .ok (.iload_n 1, 1) := by decide +kernel
theorem dX4_goesOn_1 : decode cX4_goesOn 1 = .ok (.iload_n 2, 1) := by decide +kernel
theorem dX4_goesOn_2 : decode cX4_goesOn 2 = .ok (.invokestatic 119, 3) := by decide +kernel
theorem dX4_goesOn_5 : decode cX4_goesOn 5 = .ok (.istore_n 3, 1) := by decide +kernel
theorem dX4_goesOn_6 : decode cX4_goesOn 6 = .ok (.aload_n 0, 1) := by decide +kernel
theorem dX4_goesOn_7 : decode cX4_goesOn 7 = .ok (.iload_n 3, 1) := by decide +kernel
theorem dX4_goesOn_8 : decode cX4_goesOn 8 = .ok (.invokevirtual 85, 3) := by decide +kernel
theorem dX4_goesOn_11 : decode cX4_goesOn 11 = .ok (.istore 4, 2) := by decide +kernel
theorem dX4_goesOn_13 : decode cX4_goesOn 13 = .ok (.aload_n 0, 1) := by decide +kernel
theorem dX4_goesOn_14 : decode cX4_goesOn 14 = .ok (.getfield 9, 3) := by decide +kernel
theorem dX4_goesOn_17 : decode cX4_goesOn 17 = .ok (.bipush 65, 2) := by decide +kernel
theorem dX4_goesOn_19 : decode cX4_goesOn 19 = .ok (.iload_n 3, 1) := by decide +kernel
theorem dX4_goesOn_20 : decode cX4_goesOn 20 = .ok (.iadd, 1) := by decide +kernel
theorem dX4_goesOn_21 : decode cX4_goesOn 21 = .ok (.iconst 0, 1) := by decide +kernel
theorem dX4_goesOn_22 : decode cX4_goesOn 22 = .ok (.iastore, 1) := by decide +kernel
theorem dX4_goesOn_23 : decode cX4_goesOn 23 = .ok (.iconst 0, 1) := by decide +kernel
theorem dX4_goesOn_24 : decode cX4_goesOn 24 = .ok (.istore 5, 2) := by decide +kernel
theorem dX4_goesOn_26 : decode cX4_goesOn 26 = .ok (.iload 5, 2) := by decide +kernel
theorem dX4_goesOn_28 : decode cX4_goesOn 28 = .ok (.iload 4, 2) := by decide +kernel
theorem dX4_goesOn_30 : decode cX4_goesOn 30 = .ok (.if_icmp .ge 42, 3) := by decide +kernel
theorem dX4_goesOn_33 : decode cX4_goesOn 33 = .ok (.aload_n 0, 1) := by decide +kernel
theorem dX4_goesOn_34 : decode cX4_goesOn 34 = .ok (.iload_n 3, 1) := by decide +kernel
theorem dX4_goesOn_35 : decode cX4_goesOn 35 = .ok (.iload 5, 2) := by decide +kernel
theorem dX4_goesOn_37 : decode cX4_goesOn 37 = .ok (.invokevirtual 89, 3) := by decide +kernel
theorem dX4_goesOn_40 : decode cX4_goesOn 40 = .ok (.istore 6, 2) := by decide +kernel
theorem dX4_goesOn_42 : decode cX4_goesOn 42 = .ok (.iload_n 2, 1) := by decide +kernel
theorem dX4_goesOn_43 : decode cX4_goesOn 43 = .ok (.iconst 5, 1) := by decide +kernel
theorem dX4_goesOn_44 : decode cX4_goesOn 44 = .ok (.if_icmp .ne 13, 3) := by decide +kernel
theorem dX4_goesOn_47 : decode cX4_goesOn 47 = .ok (.aload_n 0, 1) := by decide +kernel
theorem dX4_goesOn_48 : decode cX4_goesOn 48 = .ok (.iload 6, 2) := by decide +kernel
theorem dX4_goesOn_50 : decode cX4_goesOn 50 = .ok (.iload_n 1, 1) := by decide +kernel
theorem dX4_goesOn_51 : decode cX4_goesOn 51 = .ok (.invokevirtual 156, 3) := by decide +kernel
theorem dX4_goesOn_54 : decode cX4_goesOn 54 = .ok (.goto 12, 3) := by decide +kernel
theorem dX4_goesOn_57 : decode cX4_goesOn 57 = .ok (.aload_n 0, 1) := by decide +kernel
theorem dX4_goesOn_58 : decode cX4_goesOn 58 = .ok (.iload 6, 2) := by decide +kernel
theorem dX4_goesOn_60 : decode cX4_goesOn 60 = .ok (.iload_n 3, 1) := by decide +kernel
theorem dX4_goesOn_61 : decode cX4_goesOn 61 = .ok (.iconst 1, 1) := by decide +kernel
theorem dX4_goesOn_62 : decode cX4_goesOn 62 = .ok (.iadd, 1) := by decide +kernel
theorem dX4_goesOn_63 : decode cX4_goesOn 63 = .ok (.invokevirtual 138, 3) := by decide +kernel
theorem dX4_goesOn_66 : decode cX4_goesOn 66 = .ok (.iinc 5 1, 3) := by decide +kernel
theorem dX4_goesOn_69 : decode cX4_goesOn 69 = .ok (.goto (-43), 3) := by decide +kernel
theorem dX4_goesOn_72 : decode cX4_goesOn 72 = .ok (.aload_n 0, 1) := by decide +kernel
theorem dX4_goesOn_73 : decode cX4_goesOn 73 = .ok (.dup, 1) := by decide +kernel
theorem dX4_goesOn_74 : decode cX4_goesOn 74 = .ok (.getfield 159, 3) := by decide +kernel
theorem dX4_goesOn_77 : decode cX4_goesOn 77 = .ok (.iload 4, 2) := by decide +kernel
theorem dX4_goesOn_79 : decode cX4_goesOn 79 = .ok (.iadd, 1) := by decide +kernel
theorem dX4_goesOn_80 : decode cX4_goesOn 80 = .ok (.putfield 159, 3) := by decide +kernel
theorem dX4_goesOn_83 : decode cX4_goesOn 83 = .ok (.return_, 1) := by decide +kernel
theorem dX4_slidesOff_0 : decode cX4_slidesOff 0 = .ok (.aload_n 0, 1) := by decide +kernel
theorem dX4_slidesOff_1 : decode cX4_slidesOff 1 = .ok (.iload_n 1, 1) := by decide +kernel
theorem dX4_slidesOff_2 : decode cX4_slidesOff 2 = .ok (.iload_n 2, 1) := by decide +kernel
theorem dX4_slidesOff_3 : decode cX4_slidesOff 3 = .ok (.invokestatic 119, 3) := by decide +kernel
theorem dX4_slidesOff_6 : decode cX4_slidesOff 6 = .ok (.invokevirtual 143, 3) := by decide +kernel
theorem dX4_slidesOff_9 : decode cX4_slidesOff 9 = .ok (.istore_n 3, 1) := by decide +kernel
theorem dX4_slidesOff_10 : decode cX4_slidesOff 10 = .ok (.iload_n 2, 1) := by decide +kernel
theorem dX4_slidesOff_11 : decode cX4_slidesOff 11 = .ok (.iconst 5, 1) := by decide +kernel
theorem dX4_slidesOff_12 : decode cX4_slidesOff 12 = .ok (.if_icmp .ne 12, 3) := by decide +kernel
theorem dX4_slidesOff_15 : decode cX4_slidesOff 15 = .ok (.aload_n 0, 1) := by decide +kernel
theorem dX4_slidesOff_16 : decode cX4_slidesOff 16 = .ok (.iload_n 3, 1) := by decide +kernel
theorem dX4_slidesOff_17 : decode cX4_slidesOff 17 = .ok (.iload_n 1, 1) := by decide +kernel
theorem dX4_slidesOff_18 : decode cX4_slidesOff 18 = .ok (.invokevirtual 156, 3) := by decide +kernel
theorem dX4_slidesOff_21 : decode cX4_slidesOff 21 = .ok (.goto 15, 3) := by decide +kernel
theorem dX4_slidesOff_24 : decode cX4_slidesOff 24 = .ok (.aload_n 0, 1) := by decide +kernel
theorem dX4_slidesOff_25 : decode cX4_slidesOff 25 = .ok (.iload_n 3, 1) := by decide +kernel
theorem dX4_slidesOff_26 : decode cX4_slidesOff 26 = .ok (.iload_n 1, 1) := by decide +kernel
theorem dX4_slidesOff_27 : decode cX4_slidesOff 27 = .ok (.iload_n 2, 1) := by decide +kernel
theorem dX4_slidesOff_28 : decode cX4_slidesOff 28 = .ok (.iconst 1, 1) := by decide +kernel
theorem dX4_slidesOff_29 : decode cX4_slidesOff 29 = .ok (.iadd, 1) := by decide +kernel
theorem dX4_slidesOff_30 : decode cX4_slidesOff 30 = .ok (.invokestatic 119, 3) := by decide +kernel
theorem dX4_slidesOff_33 : decode cX4_slidesOff 33 = .ok (.invokevirtual 138, 3) := by decide +kernel
theorem dX4_slidesOff_36 : decode cX4_slidesOff 36 = .ok (.aload_n 0, 1) := by decide +kernel
theorem dX4_slidesOff_37 : decode cX4_slidesOff 37 = .ok (.dup, 1) := by decide +kernel
theorem dX4_slidesOff_38 : decode cX4_slidesOff 38 = .ok (.getfield 159, 3) := by decide +kernel
theorem dX4_slidesOff_41 : decode cX4_slidesOff 41 = .ok (.iconst 1, 1) := by decide +kernel
theorem dX4_slidesOff_42 : decode cX4_slidesOff 42 = .ok (.iadd, 1) := by decide +kernel
theorem dX4_slidesOff_43 : decode cX4_slidesOff 43 = .ok (.putfield 159, 3) := by decide +kernel
theorem dX4_slidesOff_46 : decode cX4_slidesOff 46 = .ok (.return_, 1) := by decide +kernel
theorem dX4_isLeaning_0 : decode cX4_isLeaning 0 = .ok (.iload_n 1, 1) := by decide +kernel
theorem dX4_isLeaning_1 : decode cX4_isLeaning 1 = .ok (.iload_n 2, 1) := by decide +kernel
theorem dX4_isLeaning_2 : decode cX4_isLeaning 2 = .ok (.invokestatic 119, 3) := by decide +kernel
theorem dX4_isLeaning_5 : decode cX4_isLeaning 5 = .ok (.istore_n 3, 1) := by decide +kernel
theorem dX4_isLeaning_6 : decode cX4_isLeaning 6 = .ok (.iload_n 2, 1) := by decide +kernel
theorem dX4_isLeaning_7 : decode cX4_isLeaning 7 = .ok (.iconst 5, 1) := by decide +kernel
theorem dX4_isLeaning_8 : decode cX4_isLeaning 8 = .ok (.if_icmp .ne 7, 3) := by decide +kernel
theorem dX4_isLeaning_11 : decode cX4_isLeaning 11 = .ok (.iconst 0, 1) := by decide +kernel
theorem dX4_isLeaning_12 : decode cX4_isLeaning 12 = .ok (.goto 10, 3) := by decide +kernel
theorem dX4_isLeaning_15 : decode cX4_isLeaning 15 = .ok (.aload_n 0, 1) := by decide +kernel
theorem dX4_isLeaning_16 : decode cX4_isLeaning 16 = .ok (.iload_n 3, 1) := by decide +kernel
theorem dX4_isLeaning_17 : decode cX4_isLeaning 17 = .ok (.iconst 1, 1) := by decide +kernel
theorem dX4_isLeaning_18 : decode cX4_isLeaning 18 = .ok (.iadd, 1) := by decide +kernel
theorem dX4_isLeaning_19 : decode cX4_isLeaning 19 = .ok (.invokevirtual 85, 3) := by decide +kernel
theorem dX4_isLeaning_22 : decode cX4_isLeaning 22 = .ok (.istore 4, 2) := by decide +kernel
theorem dX4_isLeaning_24 : decode cX4_isLeaning 24 = .ok (.aload_n 0, 1) := by decide +kernel
theorem dX4_isLeaning_25 : decode cX4_isLeaning 25 = .ok (.iload_n 3, 1) := by decide +kernel
theorem dX4_isLeaning_26 : decode cX4_isLeaning 26 = .ok (.invokevirtual 85, 3) := by decide +kernel
theorem dX4_isLeaning_29 : decode cX4_isLeaning 29 = .ok (.iload 4, 2) := by decide +kernel
theorem dX4_isLeaning_31 : decode cX4_isLeaning 31 = .ok (.iconst 3, 1) := by decide +kernel
theorem dX4_isLeaning_32 : decode cX4_isLeaning 32 = .ok (.iadd, 1) := by decide +kernel
theorem dX4_isLeaning_33 : decode cX4_isLeaning 33 = .ok (.if_icmp .lt 19, 3) := by decide +kernel
theorem dX4_isLeaning_36 : decode cX4_isLeaning 36 = .ok (.aload_n 0, 1) := by decide +kernel
theorem dX4_isLeaning_37 : decode cX4_isLeaning 37 = .ok (.aload_n 0, 1) := by decide +kernel
theorem dX4_isLeaning_38 : decode cX4_isLeaning 38 = .ok (.iload_n 3, 1) := by decide +kernel
theorem dX4_isLeaning_39 : decode cX4_isLeaning 39 = .ok (.invokevirtual 93, 3) := by decide +kernel
theorem dX4_isLeaning_42 : decode cX4_isLeaning 42 = .ok (.invokevirtual 128, 3) := by decide +kernel
theorem dX4_isLeaning_45 : decode cX4_isLeaning 45 = .ok (.ifCond .eq 7, 3) := by decide +kernel
theorem dX4_isLeaning_48 : decode cX4_isLeaning 48 = .ok (.iconst 1, 1) := by decide +kernel
theorem dX4_isLeaning_49 : decode cX4_isLeaning 49 = .ok (.goto 4, 3) := by decide +kernel
theorem dX4_isLeaning_52 : decode cX4_isLeaning 52 = .ok (.iconst 0, 1) := by decide +kernel
theorem dX4_isLeaning_53 : decode cX4_isLeaning 53 = .ok (.ireturn, 1) := by decide +kernel
theorem dX4_beat_0 : decode cX4_beat 0 = .ok (.iconst 0, 1) := by decide +kernel
theorem dX4_beat_1 : decode cX4_beat 1 = .ok (.istore_n 1, 1) := by decide +kernel
theorem dX4_beat_2 : decode cX4_beat 2 = .ok (.iload_n 1, 1) := by decide +kernel
theorem dX4_beat_3 : decode cX4_beat 3 = .ok (.bipush 7, 2) := by decide +kernel
theorem dX4_beat_5 : decode cX4_beat 5 = .ok (.if_icmp .ge 57, 3) := by decide +kernel
theorem dX4_beat_8 : decode cX4_beat 8 = .ok (.aload_n 0, 1) := by decide +kernel
theorem dX4_beat_9 : decode cX4_beat 9 = .ok (.getfield 9, 3) := by decide +kernel
theorem dX4_beat_12 : decode cX4_beat 12 = .ok (.iconst 0, 1) := by decide +kernel
theorem dX4_beat_13 : decode cX4_beat 13 = .ok (.iaload, 1) := by decide +kernel
theorem dX4_beat_14 : decode cX4_beat 14 = .ok (.aload_n 0, 1) := by decide +kernel
theorem dX4_beat_15 : decode cX4_beat 15 = .ok (.getfield 9, 3) := by decide +kernel
theorem dX4_beat_18 : decode cX4_beat 18 = .ok (.iconst 2, 1) := by decide +kernel
theorem dX4_beat_19 : decode cX4_beat 19 = .ok (.iaload, 1) := by decide +kernel
theorem dX4_beat_20 : decode cX4_beat 20 = .ok (.irem, 1) := by decide +kernel
theorem dX4_beat_21 : decode cX4_beat 21 = .ok (.ifCond .ne 41, 3) := by decide +kernel
theorem dX4_beat_24 : decode cX4_beat 24 = .ok (.aload_n 0, 1) := by decide +kernel
theorem dX4_beat_25 : decode cX4_beat 25 = .ok (.iload_n 1, 1) := by decide +kernel
theorem dX4_beat_26 : decode cX4_beat 26 = .ok (.invokevirtual 162, 3) := by decide +kernel
theorem dX4_beat_29 : decode cX4_beat 29 = .ok (.ifCond .eq 27, 3) := by decide +kernel
theorem dX4_beat_32 : decode cX4_beat 32 = .ok (.aload_n 0, 1) := by decide +kernel
theorem dX4_beat_33 : decode cX4_beat 33 = .ok (.iload_n 1, 1) := by decide +kernel
theorem dX4_beat_34 : decode cX4_beat 34 = .ok (.invokevirtual 150, 3) := by decide +kernel
theorem dX4_beat_37 : decode cX4_beat 37 = .ok (.iconst 1, 1) := by decide +kernel
theorem dX4_beat_38 : decode cX4_beat 38 = .ok (.isub, 1) := by decide +kernel
theorem dX4_beat_39 : decode cX4_beat 39 = .ok (.istore_n 2, 1) := by decide +kernel
theorem dX4_beat_40 : decode cX4_beat 40 = .ok (.iload_n 2, 1) := by decide +kernel
theorem dX4_beat_41 : decode cX4_beat 41 = .ok (.ifCond .lt 15, 3) := by decide +kernel
theorem dX4_beat_44 : decode cX4_beat 44 = .ok (.aload_n 0, 1) := by decide +kernel
theorem dX4_beat_45 : decode cX4_beat 45 = .ok (.iload_n 1, 1) := by decide +kernel
theorem dX4_beat_46 : decode cX4_beat 46 = .ok (.iload_n 2, 1) := by decide +kernel
theorem dX4_beat_47 : decode cX4_beat 47 = .ok (.invokevirtual 165, 3) := by decide +kernel
theorem dX4_beat_50 : decode cX4_beat 50 = .ok (.iinc 2 (-1), 3) := by decide +kernel
theorem dX4_beat_53 : decode cX4_beat 53 = .ok (.goto (-13), 3) := by decide +kernel
theorem dX4_beat_56 : decode cX4_beat 56 = .ok (.iinc 1 1, 3) := by decide +kernel
theorem dX4_beat_59 : decode cX4_beat 59 = .ok (.goto (-57), 3) := by decide +kernel
theorem dX4_beat_62 : decode cX4_beat 62 = .ok (.iconst 5, 1) := by decide +kernel
theorem dX4_beat_63 : decode cX4_beat 63 = .ok (.istore_n 1, 1) := by decide +kernel
theorem dX4_beat_64 : decode cX4_beat 64 = .ok (.iload_n 1, 1) := by decide +kernel
theorem dX4_beat_65 : decode cX4_beat 65 = .ok (.ifCond .lt 38, 3) := by decide +kernel
theorem dX4_beat_68 : decode cX4_beat 68 = .ok (.iconst 0, 1) := by decide +kernel
theorem dX4_beat_69 : decode cX4_beat 69 = .ok (.istore_n 2, 1) := by decide +kernel
theorem dX4_beat_70 : decode cX4_beat 70 = .ok (.iload_n 2, 1) := by decide +kernel
theorem dX4_beat_71 : decode cX4_beat 71 = .ok (.bipush 7, 2) := by decide +kernel
theorem dX4_beat_73 : decode cX4_beat 73 = .ok (.if_icmp .ge 24, 3) := by decide +kernel
theorem dX4_beat_76 : decode cX4_beat 76 = .ok (.aload_n 0, 1) := by decide +kernel
theorem dX4_beat_77 : decode cX4_beat 77 = .ok (.iload_n 2, 1) := by decide +kernel
theorem dX4_beat_78 : decode cX4_beat 78 = .ok (.iload_n 1, 1) := by decide +kernel
theorem dX4_beat_79 : decode cX4_beat 79 = .ok (.invokevirtual 168, 3) := by decide +kernel
theorem dX4_beat_82 : decode cX4_beat 82 = .ok (.ifCond .eq 9, 3) := by decide +kernel
theorem dX4_beat_85 : decode cX4_beat 85 = .ok (.aload_n 0, 1) := by decide +kernel
theorem dX4_beat_86 : decode cX4_beat 86 = .ok (.iload_n 2, 1) := by decide +kernel
theorem dX4_beat_87 : decode cX4_beat 87 = .ok (.iload_n 1, 1) := by decide +kernel
theorem dX4_beat_88 : decode cX4_beat 88 = .ok (.invokevirtual 171, 3) := by decide +kernel
theorem dX4_beat_91 : decode cX4_beat 91 = .ok (.iinc 2 1, 3) := by decide +kernel
theorem dX4_beat_94 : decode cX4_beat 94 = .ok (.goto (-24), 3) := by decide +kernel
theorem dX4_beat_97 : decode cX4_beat 97 = .ok (.iinc 1 (-1), 3) := by decide +kernel
theorem dX4_beat_100 : decode cX4_beat 100 = .ok (.goto (-36), 3) := by decide +kernel
theorem dX4_beat_103 : decode cX4_beat 103 = .ok (.aload_n 0, 1) := by decide +kernel
theorem dX4_beat_104 : decode cX4_beat 104 = .ok (.getfield 9, 3) := by decide +kernel
theorem dX4_beat_107 : decode cX4_beat 107 = .ok (.iconst 0, 1) := by decide +kernel
theorem dX4_beat_108 : decode cX4_beat 108 = .ok (.dup2, 1) := by decide +kernel
theorem dX4_beat_109 : decode cX4_beat 109 = .ok (.iaload, 1) := by decide +kernel
theorem dX4_beat_110 : decode cX4_beat 110 = .ok (.iconst 1, 1) := by decide +kernel
theorem dX4_beat_111 : decode cX4_beat 111 = .ok (.iadd, 1) := by decide +kernel
theorem dX4_beat_112 : decode cX4_beat 112 = .ok (.iastore, 1) := by decide +kernel
theorem dX4_beat_113 : decode cX4_beat 113 = .ok (.return_, 1) := by decide +kernel
theorem dX4_beatsGo_0 : decode cX4_beatsGo 0 = .ok (.aload_n 0, 1) := by decide +kernel
theorem dX4_beatsGo_1 : decode cX4_beatsGo 1 = .ok (.getfield 146, 3) := by decide +kernel
theorem dX4_beatsGo_4 : decode cX4_beatsGo 4 = .ok (.istore_n 2, 1) := by decide +kernel
theorem dX4_beatsGo_5 : decode cX4_beatsGo 5 = .ok (.iconst 0, 1) := by decide +kernel
theorem dX4_beatsGo_6 : decode cX4_beatsGo 6 = .ok (.istore_n 3, 1) := by decide +kernel
theorem dX4_beatsGo_7 : decode cX4_beatsGo 7 = .ok (.iload_n 3, 1) := by decide +kernel
theorem dX4_beatsGo_8 : decode cX4_beatsGo 8 = .ok (.iload_n 1, 1) := by decide +kernel
theorem dX4_beatsGo_9 : decode cX4_beatsGo 9 = .ok (.if_icmp .ge 13, 3) := by decide +kernel
theorem dX4_beatsGo_12 : decode cX4_beatsGo 12 = .ok (.aload_n 0, 1) := by decide +kernel
theorem dX4_beatsGo_13 : decode cX4_beatsGo 13 = .ok (.invokevirtual 174, 3) := by decide +kernel
theorem dX4_beatsGo_16 : decode cX4_beatsGo 16 = .ok (.iinc 3 1, 3) := by decide +kernel
theorem dX4_beatsGo_19 : decode cX4_beatsGo 19 = .ok (.goto (-12), 3) := by decide +kernel
theorem dX4_beatsGo_22 : decode cX4_beatsGo 22 = .ok (.aload_n 0, 1) := by decide +kernel
theorem dX4_beatsGo_23 : decode cX4_beatsGo 23 = .ok (.getfield 146, 3) := by decide +kernel
theorem dX4_beatsGo_26 : decode cX4_beatsGo 26 = .ok (.iload_n 2, 1) := by decide +kernel
theorem dX4_beatsGo_27 : decode cX4_beatsGo 27 = .ok (.isub, 1) := by decide +kernel
theorem dX4_beatsGo_28 : decode cX4_beatsGo 28 = .ok (.ireturn, 1) := by decide +kernel
theorem dX4_dropped_0 : decode cX4_dropped 0 = .ok (.aload_n 0, 1) := by decide +kernel
theorem dX4_dropped_1 : decode cX4_dropped 1 = .ok (.getfield 9, 3) := by decide +kernel
theorem dX4_dropped_4 : decode cX4_dropped 4 = .ok (.iconst 0, 1) := by decide +kernel
theorem dX4_dropped_5 : decode cX4_dropped 5 = .ok (.iaload, 1) := by decide +kernel
theorem dX4_dropped_6 : decode cX4_dropped 6 = .ok (.iconst 2, 1) := by decide +kernel
theorem dX4_dropped_7 : decode cX4_dropped 7 = .ok (.irem, 1) := by decide +kernel
theorem dX4_dropped_8 : decode cX4_dropped 8 = .ok (.istore_n 3, 1) := by decide +kernel
theorem dX4_dropped_9 : decode cX4_dropped 9 = .ok (.iload_n 2, 1) := by decide +kernel
theorem dX4_dropped_10 : decode cX4_dropped 10 = .ok (.istore 4, 2) := by decide +kernel
theorem dX4_dropped_12 : decode cX4_dropped 12 = .ok (.iload 4, 2) := by decide +kernel
theorem dX4_dropped_14 : decode cX4_dropped 14 = .ok (.bipush 7, 2) := by decide +kernel
theorem dX4_dropped_16 : decode cX4_dropped 16 = .ok (.if_icmp .ge 23, 3) := by decide +kernel
theorem dX4_dropped_19 : decode cX4_dropped 19 = .ok (.aload_n 0, 1) := by decide +kernel
theorem dX4_dropped_20 : decode cX4_dropped 20 = .ok (.iload 4, 2) := by decide +kernel
theorem dX4_dropped_22 : decode cX4_dropped 22 = .ok (.iload_n 3, 1) := by decide +kernel
theorem dX4_dropped_23 : decode cX4_dropped 23 = .ok (.invokestatic 119, 3) := by decide +kernel
theorem dX4_dropped_26 : decode cX4_dropped 26 = .ok (.invokevirtual 85, 3) := by decide +kernel
theorem dX4_dropped_29 : decode cX4_dropped 29 = .ok (.iconst 4, 1) := by decide +kernel
theorem dX4_dropped_30 : decode cX4_dropped 30 = .ok (.if_icmp .ne 9, 3) := by decide +kernel
theorem dX4_dropped_33 : decode cX4_dropped 33 = .ok (.iinc 4 1, 3) := by decide +kernel
theorem dX4_dropped_36 : decode cX4_dropped 36 = .ok (.goto (-24), 3) := by decide +kernel
theorem dX4_dropped_39 : decode cX4_dropped 39 = .ok (.aload_n 0, 1) := by decide +kernel
theorem dX4_dropped_40 : decode cX4_dropped 40 = .ok (.getfield 9, 3) := by decide +kernel
theorem dX4_dropped_43 : decode cX4_dropped 43 = .ok (.iconst 5, 1) := by decide +kernel
theorem dX4_dropped_44 : decode cX4_dropped 44 = .ok (.dup2, 1) := by decide +kernel
theorem dX4_dropped_45 : decode cX4_dropped 45 = .ok (.iaload, 1) := by decide +kernel
theorem dX4_dropped_46 : decode cX4_dropped 46 = .ok (.iconst 1, 1) := by decide +kernel
theorem dX4_dropped_47 : decode cX4_dropped 47 = .ok (.iadd, 1) := by decide +kernel
theorem dX4_dropped_48 : decode cX4_dropped 48 = .ok (.iastore, 1) := by decide +kernel
theorem dX4_dropped_49 : decode cX4_dropped 49 = .ok (.iload 4, 2) := by decide +kernel
theorem dX4_dropped_51 : decode cX4_dropped 51 = .ok (.bipush 7, 2) := by decide +kernel
theorem dX4_dropped_53 : decode cX4_dropped 53 = .ok (.if_icmp .ne 17, 3) := by decide +kernel
theorem dX4_dropped_56 : decode cX4_dropped 56 = .ok (.aload_n 0, 1) := by decide +kernel
theorem dX4_dropped_57 : decode cX4_dropped 57 = .ok (.getfield 9, 3) := by decide +kernel
theorem dX4_dropped_60 : decode cX4_dropped 60 = .ok (.bipush 41, 2) := by decide +kernel
theorem dX4_dropped_62 : decode cX4_dropped 62 = .ok (.iload_n 1, 1) := by decide +kernel
theorem dX4_dropped_63 : decode cX4_dropped 63 = .ok (.iadd, 1) := by decide +kernel
theorem dX4_dropped_64 : decode cX4_dropped 64 = .ok (.bipush 102, 2) := by decide +kernel
theorem dX4_dropped_66 : decode cX4_dropped 66 = .ok (.iastore, 1) := by decide +kernel
theorem dX4_dropped_67 : decode cX4_dropped 67 = .ok (.goto 14, 3) := by decide +kernel
theorem dX4_dropped_70 : decode cX4_dropped 70 = .ok (.aload_n 0, 1) := by decide +kernel
theorem dX4_dropped_71 : decode cX4_dropped 71 = .ok (.iload_n 1, 1) := by decide +kernel
theorem dX4_dropped_72 : decode cX4_dropped 72 = .ok (.iload 4, 2) := by decide +kernel
theorem dX4_dropped_74 : decode cX4_dropped 74 = .ok (.iload_n 3, 1) := by decide +kernel
theorem dX4_dropped_75 : decode cX4_dropped 75 = .ok (.invokestatic 119, 3) := by decide +kernel
theorem dX4_dropped_78 : decode cX4_dropped 78 = .ok (.invokevirtual 138, 3) := by decide +kernel
theorem dX4_dropped_81 : decode cX4_dropped 81 = .ok (.aload_n 0, 1) := by decide +kernel
theorem dX4_dropped_82 : decode cX4_dropped 82 = .ok (.invokevirtual 174, 3) := by decide +kernel
theorem dX4_dropped_85 : decode cX4_dropped 85 = .ok (.return_, 1) := by decide +kernel
theorem dX4_setOf_0 : decode cX4_setOf 0 = .ok (.iconst 0, 1) := by decide +kernel
theorem dX4_setOf_1 : decode cX4_setOf 1 = .ok (.istore_n 2, 1) := by decide +kernel
theorem dX4_setOf_2 : decode cX4_setOf 2 = .ok (.iconst 0, 1) := by decide +kernel
theorem dX4_setOf_3 : decode cX4_setOf 3 = .ok (.istore_n 3, 1) := by decide +kernel
theorem dX4_setOf_4 : decode cX4_setOf 4 = .ok (.iload_n 3, 1) := by decide +kernel
theorem dX4_setOf_5 : decode cX4_setOf 5 = .ok (.aload_n 0, 1) := by decide +kernel
theorem dX4_setOf_6 : decode cX4_setOf 6 = .ok (.getfield 9, 3) := by decide +kernel
theorem dX4_setOf_9 : decode cX4_setOf 9 = .ok (.iconst 4, 1) := by decide +kernel
theorem dX4_setOf_10 : decode cX4_setOf 10 = .ok (.iaload, 1) := by decide +kernel
theorem dX4_setOf_11 : decode cX4_setOf 11 = .ok (.if_icmp .ge 32, 3) := by decide +kernel
theorem dX4_setOf_14 : decode cX4_setOf 14 = .ok (.iload_n 2, 1) := by decide +kernel
theorem dX4_setOf_15 : decode cX4_setOf 15 = .ok (.aload_n 0, 1) := by decide +kernel
theorem dX4_setOf_16 : decode cX4_setOf 16 = .ok (.getfield 9, 3) := by decide +kernel
theorem dX4_setOf_19 : decode cX4_setOf 19 = .ok (.bipush 41, 2) := by decide +kernel
theorem dX4_setOf_21 : decode cX4_setOf 21 = .ok (.iload_n 3, 1) := by decide +kernel
theorem dX4_setOf_22 : decode cX4_setOf 22 = .ok (.iadd, 1) := by decide +kernel
theorem dX4_setOf_23 : decode cX4_setOf 23 = .ok (.iaload, 1) := by decide +kernel
theorem dX4_setOf_24 : decode cX4_setOf 24 = .ok (.iload_n 1, 1) := by decide +kernel
theorem dX4_setOf_25 : decode cX4_setOf 25 = .ok (.if_icmp .ne 9, 3) := by decide +kernel
theorem dX4_setOf_28 : decode cX4_setOf 28 = .ok (.iconst 1, 1) := by decide +kernel
theorem dX4_setOf_29 : decode cX4_setOf 29 = .ok (.iload_n 3, 1) := by decide +kernel
theorem dX4_setOf_30 : decode cX4_setOf 30 = .ok (.ishl, 1) := by decide +kernel
theorem dX4_setOf_31 : decode cX4_setOf 31 = .ok (.goto 4, 3) := by decide +kernel
theorem dX4_setOf_34 : decode cX4_setOf 34 = .ok (.iconst 0, 1) := by decide +kernel
theorem dX4_setOf_35 : decode cX4_setOf 35 = .ok (.ior, 1) := by decide +kernel
theorem dX4_setOf_36 : decode cX4_setOf 36 = .ok (.istore_n 2, 1) := by decide +kernel
theorem dX4_setOf_37 : decode cX4_setOf 37 = .ok (.iinc 3 1, 3) := by decide +kernel
theorem dX4_setOf_40 : decode cX4_setOf 40 = .ok (.goto (-36), 3) := by decide +kernel
theorem dX4_setOf_43 : decode cX4_setOf 43 = .ok (.iload_n 2, 1) := by decide +kernel
theorem dX4_setOf_44 : decode cX4_setOf 44 = .ok (.ireturn, 1) := by decide +kernel
theorem dX4_shelf_0 : decode cX4_shelf 0 = .ok (.iconst 1, 1) := by decide +kernel
theorem dX4_shelf_1 : decode cX4_shelf 1 = .ok (.aload_n 0, 1) := by decide +kernel
theorem dX4_shelf_2 : decode cX4_shelf 2 = .ok (.getfield 9, 3) := by decide +kernel
theorem dX4_shelf_5 : decode cX4_shelf 5 = .ok (.iconst 4, 1) := by decide +kernel
theorem dX4_shelf_6 : decode cX4_shelf 6 = .ok (.iaload, 1) := by decide +kernel
theorem dX4_shelf_7 : decode cX4_shelf 7 = .ok (.ishl, 1) := by decide +kernel
theorem dX4_shelf_8 : decode cX4_shelf 8 = .ok (.iconst 1, 1) := by decide +kernel
theorem dX4_shelf_9 : decode cX4_shelf 9 = .ok (.isub, 1) := by decide +kernel
theorem dX4_shelf_10 : decode cX4_shelf 10 = .ok (.aload_n 0, 1) := by decide +kernel
theorem dX4_shelf_11 : decode cX4_shelf 11 = .ok (.bipush 100, 2) := by decide +kernel
theorem dX4_shelf_13 : decode cX4_shelf 13 = .ok (.invokevirtual 177, 3) := by decide +kernel
theorem dX4_shelf_16 : decode cX4_shelf 16 = .ok (.iconst (-1), 1) := by decide +kernel
theorem dX4_shelf_17 : decode cX4_shelf 17 = .ok (.ixor, 1) := by decide +kernel
theorem dX4_shelf_18 : decode cX4_shelf 18 = .ok (.iand, 1) := by decide +kernel
theorem dX4_shelf_19 : decode cX4_shelf 19 = .ok (.aload_n 0, 1) := by decide +kernel
theorem dX4_shelf_20 : decode cX4_shelf 20 = .ok (.bipush 101, 2) := by decide +kernel
theorem dX4_shelf_22 : decode cX4_shelf 22 = .ok (.invokevirtual 177, 3) := by decide +kernel
theorem dX4_shelf_25 : decode cX4_shelf 25 = .ok (.iconst (-1), 1) := by decide +kernel
theorem dX4_shelf_26 : decode cX4_shelf 26 = .ok (.ixor, 1) := by decide +kernel
theorem dX4_shelf_27 : decode cX4_shelf 27 = .ok (.iand, 1) := by decide +kernel
theorem dX4_shelf_28 : decode cX4_shelf 28 = .ok (.aload_n 0, 1) := by decide +kernel
theorem dX4_shelf_29 : decode cX4_shelf 29 = .ok (.bipush 102, 2) := by decide +kernel
theorem dX4_shelf_31 : decode cX4_shelf 31 = .ok (.invokevirtual 177, 3) := by decide +kernel
theorem dX4_shelf_34 : decode cX4_shelf 34 = .ok (.iconst (-1), 1) := by decide +kernel
theorem dX4_shelf_35 : decode cX4_shelf 35 = .ok (.ixor, 1) := by decide +kernel
theorem dX4_shelf_36 : decode cX4_shelf 36 = .ok (.iand, 1) := by decide +kernel
theorem dX4_shelf_37 : decode cX4_shelf 37 = .ok (.ireturn, 1) := by decide +kernel
theorem dX4_worthOf_0 : decode cX4_worthOf 0 = .ok (.iconst 0, 1) := by decide +kernel
theorem dX4_worthOf_1 : decode cX4_worthOf 1 = .ok (.istore_n 2, 1) := by decide +kernel
theorem dX4_worthOf_2 : decode cX4_worthOf 2 = .ok (.iconst 0, 1) := by decide +kernel
theorem dX4_worthOf_3 : decode cX4_worthOf 3 = .ok (.istore_n 3, 1) := by decide +kernel
theorem dX4_worthOf_4 : decode cX4_worthOf 4 = .ok (.iload_n 3, 1) := by decide +kernel
theorem dX4_worthOf_5 : decode cX4_worthOf 5 = .ok (.aload_n 0, 1) := by decide +kernel
theorem dX4_worthOf_6 : decode cX4_worthOf 6 = .ok (.getfield 9, 3) := by decide +kernel
theorem dX4_worthOf_9 : decode cX4_worthOf 9 = .ok (.iconst 4, 1) := by decide +kernel
theorem dX4_worthOf_10 : decode cX4_worthOf 10 = .ok (.iaload, 1) := by decide +kernel
theorem dX4_worthOf_11 : decode cX4_worthOf 11 = .ok (.if_icmp .ge 30, 3) := by decide +kernel
theorem dX4_worthOf_14 : decode cX4_worthOf 14 = .ok (.iload_n 2, 1) := by decide +kernel
theorem dX4_worthOf_15 : decode cX4_worthOf 15 = .ok (.iload_n 1, 1) := by decide +kernel
theorem dX4_worthOf_16 : decode cX4_worthOf 16 = .ok (.iload_n 3, 1) := by decide +kernel
theorem dX4_worthOf_17 : decode cX4_worthOf 17 = .ok (.ishr, 1) := by decide +kernel
theorem dX4_worthOf_18 : decode cX4_worthOf 18 = .ok (.iconst 1, 1) := by decide +kernel
theorem dX4_worthOf_19 : decode cX4_worthOf 19 = .ok (.iand, 1) := by decide +kernel
theorem dX4_worthOf_20 : decode cX4_worthOf 20 = .ok (.iconst 1, 1) := by decide +kernel
theorem dX4_worthOf_21 : decode cX4_worthOf 21 = .ok (.if_icmp .ne 11, 3) := by decide +kernel
theorem dX4_worthOf_24 : decode cX4_worthOf 24 = .ok (.aload_n 0, 1) := by decide +kernel
theorem dX4_worthOf_25 : decode cX4_worthOf 25 = .ok (.iload_n 3, 1) := by decide +kernel
theorem dX4_worthOf_26 : decode cX4_worthOf 26 = .ok (.invokevirtual 122, 3) := by decide +kernel
theorem dX4_worthOf_29 : decode cX4_worthOf 29 = .ok (.goto 4, 3) := by decide +kernel
theorem dX4_worthOf_32 : decode cX4_worthOf 32 = .ok (.iconst 0, 1) := by decide +kernel
theorem dX4_worthOf_33 : decode cX4_worthOf 33 = .ok (.iadd, 1) := by decide +kernel
theorem dX4_worthOf_34 : decode cX4_worthOf 34 = .ok (.istore_n 2, 1) := by decide +kernel
theorem dX4_worthOf_35 : decode cX4_worthOf 35 = .ok (.iinc 3 1, 3) := by decide +kernel
theorem dX4_worthOf_38 : decode cX4_worthOf 38 = .ok (.goto (-34), 3) := by decide +kernel
theorem dX4_worthOf_41 : decode cX4_worthOf 41 = .ok (.iload_n 2, 1) := by decide +kernel
theorem dX4_worthOf_42 : decode cX4_worthOf 42 = .ok (.ireturn, 1) := by decide +kernel
theorem dX4_gain_0 : decode cX4_gain 0 = .ok (.aload_n 0, 1) := by decide +kernel
theorem dX4_gain_1 : decode cX4_gain 1 = .ok (.aload_n 0, 1) := by decide +kernel
theorem dX4_gain_2 : decode cX4_gain 2 = .ok (.bipush 101, 2) := by decide +kernel
theorem dX4_gain_4 : decode cX4_gain 4 = .ok (.invokevirtual 177, 3) := by decide +kernel
theorem dX4_gain_7 : decode cX4_gain 7 = .ok (.invokevirtual 180, 3) := by decide +kernel
theorem dX4_gain_10 : decode cX4_gain 10 = .ok (.aload_n 0, 1) := by decide +kernel
theorem dX4_gain_11 : decode cX4_gain 11 = .ok (.getfield 9, 3) := by decide +kernel
theorem dX4_gain_14 : decode cX4_gain 14 = .ok (.iconst 5, 1) := by decide +kernel
theorem dX4_gain_15 : decode cX4_gain 15 = .ok (.iaload, 1) := by decide +kernel
theorem dX4_gain_16 : decode cX4_gain 16 = .ok (.isub, 1) := by decide +kernel
theorem dX4_gain_17 : decode cX4_gain 17 = .ok (.ireturn, 1) := by decide +kernel
theorem dX4_isInHand_0 : decode cX4_isInHand 0 = .ok (.aload_n 0, 1) := by decide +kernel
theorem dX4_isInHand_1 : decode cX4_isInHand 1 = .ok (.getfield 9, 3) := by decide +kernel
theorem dX4_isInHand_4 : decode cX4_isInHand 4 = .ok (.bipush 41, 2) := by decide +kernel
theorem dX4_isInHand_6 : decode cX4_isInHand 6 = .ok (.iload_n 1, 1) := by decide +kernel
theorem dX4_isInHand_7 : decode cX4_isInHand 7 = .ok (.iadd, 1) := by decide +kernel
theorem dX4_isInHand_8 : decode cX4_isInHand 8 = .ok (.iaload, 1) := by decide +kernel
theorem dX4_isInHand_9 : decode cX4_isInHand 9 = .ok (.bipush 100, 2) := by decide +kernel
theorem dX4_isInHand_11 : decode cX4_isInHand 11 = .ok (.if_icmp .ne 7, 3) := by decide +kernel
theorem dX4_isInHand_14 : decode cX4_isInHand 14 = .ok (.iconst 1, 1) := by decide +kernel
theorem dX4_isInHand_15 : decode cX4_isInHand 15 = .ok (.goto 4, 3) := by decide +kernel
theorem dX4_isInHand_18 : decode cX4_isInHand 18 = .ok (.iconst 0, 1) := by decide +kernel
theorem dX4_isInHand_19 : decode cX4_isInHand 19 = .ok (.ireturn, 1) := by decide +kernel
theorem dX4_drop_0 : decode cX4_drop 0 = .ok (.aload_n 0, 1) := by decide +kernel
theorem dX4_drop_1 : decode cX4_drop 1 = .ok (.iload_n 1, 1) := by decide +kernel
theorem dX4_drop_2 : decode cX4_drop 2 = .ok (.invokevirtual 116, 3) := by decide +kernel
theorem dX4_drop_5 : decode cX4_drop 5 = .ok (.ifCond .eq 10, 3) := by decide +kernel
theorem dX4_drop_8 : decode cX4_drop 8 = .ok (.iload_n 2, 1) := by decide +kernel
theorem dX4_drop_9 : decode cX4_drop 9 = .ok (.invokestatic 81, 3) := by decide +kernel
theorem dX4_drop_12 : decode cX4_drop 12 = .ok (.ifCond .ne 10, 3) := by decide +kernel
theorem dX4_drop_15 : decode cX4_drop 15 = .ok (.aload_n 0, 1) := by decide +kernel
theorem dX4_drop_16 : decode cX4_drop 16 = .ok (.ldc 72, 2) := by decide +kernel
theorem dX4_drop_18 : decode cX4_drop 18 = .ok (.invokevirtual 99, 3) := by decide +kernel
theorem dX4_drop_21 : decode cX4_drop 21 = .ok (.ireturn, 1) := by decide +kernel
theorem dX4_drop_22 : decode cX4_drop 22 = .ok (.aload_n 0, 1) := by decide +kernel
theorem dX4_drop_23 : decode cX4_drop 23 = .ok (.iload_n 1, 1) := by decide +kernel
theorem dX4_drop_24 : decode cX4_drop 24 = .ok (.invokevirtual 183, 3) := by decide +kernel
theorem dX4_drop_27 : decode cX4_drop 27 = .ok (.ifCond .eq 15, 3) := by decide +kernel
theorem dX4_drop_30 : decode cX4_drop 30 = .ok (.aload_n 0, 1) := by decide +kernel
theorem dX4_drop_31 : decode cX4_drop 31 = .ok (.getfield 9, 3) := by decide +kernel
theorem dX4_drop_34 : decode cX4_drop 34 = .ok (.iconst 0, 1) := by decide +kernel
theorem dX4_drop_35 : decode cX4_drop 35 = .ok (.iaload, 1) := by decide +kernel
theorem dX4_drop_36 : decode cX4_drop 36 = .ok (.sipush 9999, 3) := by decide +kernel
theorem dX4_drop_39 : decode cX4_drop 39 = .ok (.if_icmp .ne 10, 3) := by decide +kernel
theorem dX4_drop_42 : decode cX4_drop 42 = .ok (.aload_n 0, 1) := by decide +kernel
theorem dX4_drop_43 : decode cX4_drop 43 = .ok (.ldc 137, 2) := by decide +kernel
theorem dX4_drop_45 : decode cX4_drop 45 = .ok (.invokevirtual 99, 3) := by decide +kernel
theorem dX4_drop_48 : decode cX4_drop 48 = .ok (.ireturn, 1) := by decide +kernel
theorem dX4_drop_49 : decode cX4_drop 49 = .ok (.aload_n 0, 1) := by decide +kernel
theorem dX4_drop_50 : decode cX4_drop 50 = .ok (.invokevirtual 186, 3) := by decide +kernel
theorem dX4_drop_53 : decode cX4_drop 53 = .ok (.istore_n 3, 1) := by decide +kernel
theorem dX4_drop_54 : decode cX4_drop 54 = .ok (.aload_n 0, 1) := by decide +kernel
theorem dX4_drop_55 : decode cX4_drop 55 = .ok (.iload_n 1, 1) := by decide +kernel
theorem dX4_drop_56 : decode cX4_drop 56 = .ok (.iload_n 2, 1) := by decide +kernel
theorem dX4_drop_57 : decode cX4_drop 57 = .ok (.invokevirtual 190, 3) := by decide +kernel
theorem dX4_drop_60 : decode cX4_drop 60 = .ok (.aload_n 0, 1) := by decide +kernel
theorem dX4_drop_61 : decode cX4_drop 61 = .ok (.invokevirtual 186, 3) := by decide +kernel
theorem dX4_drop_64 : decode cX4_drop 64 = .ok (.iload_n 3, 1) := by decide +kernel
theorem dX4_drop_65 : decode cX4_drop 65 = .ok (.isub, 1) := by decide +kernel
theorem dX4_drop_66 : decode cX4_drop 66 = .ok (.ireturn, 1) := by decide +kernel
theorem dX4_isTooLate_0 : decode cX4_isTooLate 0 = .ok (.aload_n 0, 1) := by decide +kernel
theorem dX4_isTooLate_1 : decode cX4_isTooLate 1 = .ok (.getfield 9, 3) := by decide +kernel
theorem dX4_isTooLate_4 : decode cX4_isTooLate 4 = .ok (.iconst 0, 1) := by decide +kernel
theorem dX4_isTooLate_5 : decode cX4_isTooLate 5 = .ok (.iaload, 1) := by decide +kernel
theorem dX4_isTooLate_6 : decode cX4_isTooLate 6 = .ok (.iload_n 1, 1) := by decide +kernel
theorem dX4_isTooLate_7 : decode cX4_isTooLate 7 = .ok (.iadd, 1) := by decide +kernel
theorem dX4_isTooLate_8 : decode cX4_isTooLate 8 = .ok (.sipush 9999, 3) := by decide +kernel
theorem dX4_isTooLate_11 : decode cX4_isTooLate 11 = .ok (.if_icmp .le 7, 3) := by decide +kernel
theorem dX4_isTooLate_14 : decode cX4_isTooLate 14 = .ok (.iconst 1, 1) := by decide +kernel
theorem dX4_isTooLate_15 : decode cX4_isTooLate 15 = .ok (.goto 4, 3) := by decide +kernel
theorem dX4_isTooLate_18 : decode cX4_isTooLate 18 = .ok (.iconst 0, 1) := by decide +kernel
theorem dX4_isTooLate_19 : decode cX4_isTooLate 19 = .ok (.ireturn, 1) := by decide +kernel
theorem dX4_beats_0 : decode cX4_beats 0 = .ok (.iload_n 1, 1) := by decide +kernel
theorem dX4_beats_1 : decode cX4_beats 1 = .ok (.iconst 1, 1) := by decide +kernel
theorem dX4_beats_2 : decode cX4_beats 2 = .ok (.bipush 60, 2) := by decide +kernel
theorem dX4_beats_4 : decode cX4_beats 4 = .ok (.invokestatic 77, 3) := by decide +kernel
theorem dX4_beats_7 : decode cX4_beats 7 = .ok (.ifCond .ne 10, 3) := by decide +kernel
theorem dX4_beats_10 : decode cX4_beats 10 = .ok (.aload_n 0, 1) := by decide +kernel
theorem dX4_beats_11 : decode cX4_beats 11 = .ok (.ldc 72, 2) := by decide +kernel
theorem dX4_beats_13 : decode cX4_beats 13 = .ok (.invokevirtual 99, 3) := by decide +kernel
theorem dX4_beats_16 : decode cX4_beats 16 = .ok (.ireturn, 1) := by decide +kernel
theorem dX4_beats_17 : decode cX4_beats 17 = .ok (.aload_n 0, 1) := by decide +kernel
theorem dX4_beats_18 : decode cX4_beats 18 = .ok (.iload_n 1, 1) := by decide +kernel
theorem dX4_beats_19 : decode cX4_beats 19 = .ok (.invokevirtual 193, 3) := by decide +kernel
theorem dX4_beats_22 : decode cX4_beats 22 = .ok (.ifCond .eq 12, 3) := by decide +kernel
theorem dX4_beats_25 : decode cX4_beats 25 = .ok (.aload_n 0, 1) := by decide +kernel
theorem dX4_beats_26 : decode cX4_beats 26 = .ok (.ldc 137, 2) := by decide +kernel
theorem dX4_beats_28 : decode cX4_beats 28 = .ok (.invokevirtual 99, 3) := by decide +kernel
theorem dX4_beats_31 : decode cX4_beats 31 = .ok (.goto 8, 3) := by decide +kernel
theorem dX4_beats_34 : decode cX4_beats 34 = .ok (.aload_n 0, 1) := by decide +kernel
theorem dX4_beats_35 : decode cX4_beats 35 = .ok (.iload_n 1, 1) := by decide +kernel
theorem dX4_beats_36 : decode cX4_beats 36 = .ok (.invokevirtual 196, 3) := by decide +kernel
theorem dX4_beats_39 : decode cX4_beats 39 = .ok (.ireturn, 1) := by decide +kernel
theorem dX4_now_0 : decode cX4_now 0 = .ok (.iload_n 1, 1) := by decide +kernel
theorem dX4_now_1 : decode cX4_now 1 = .ok (.tableswitch 94 0 6 #[43, 50, 55, 62, 69, 76, 83], 43) := by decide +kernel
theorem dX4_now_44 : decode cX4_now 44 = .ok (.aload_n 0, 1) := by decide +kernel
theorem dX4_now_45 : decode cX4_now 45 = .ok (.getfield 9, 3) := by decide +kernel
theorem dX4_now_48 : decode cX4_now 48 = .ok (.iconst 0, 1) := by decide +kernel
theorem dX4_now_49 : decode cX4_now 49 = .ok (.iaload, 1) := by decide +kernel
theorem dX4_now_50 : decode cX4_now 50 = .ok (.ireturn, 1) := by decide +kernel
theorem dX4_now_51 : decode cX4_now 51 = .ok (.aload_n 0, 1) := by decide +kernel
theorem dX4_now_52 : decode cX4_now 52 = .ok (.invokevirtual 186, 3) := by decide +kernel
theorem dX4_now_55 : decode cX4_now 55 = .ok (.ireturn, 1) := by decide +kernel
theorem dX4_now_56 : decode cX4_now 56 = .ok (.aload_n 0, 1) := by decide +kernel
theorem dX4_now_57 : decode cX4_now 57 = .ok (.bipush 101, 2) := by decide +kernel
theorem dX4_now_59 : decode cX4_now 59 = .ok (.invokevirtual 177, 3) := by decide +kernel
theorem dX4_now_62 : decode cX4_now 62 = .ok (.ireturn, 1) := by decide +kernel
theorem dX4_now_63 : decode cX4_now 63 = .ok (.aload_n 0, 1) := by decide +kernel
theorem dX4_now_64 : decode cX4_now 64 = .ok (.bipush 102, 2) := by decide +kernel
theorem dX4_now_66 : decode cX4_now 66 = .ok (.invokevirtual 177, 3) := by decide +kernel
theorem dX4_now_69 : decode cX4_now 69 = .ok (.ireturn, 1) := by decide +kernel
theorem dX4_now_70 : decode cX4_now 70 = .ok (.aload_n 0, 1) := by decide +kernel
theorem dX4_now_71 : decode cX4_now 71 = .ok (.bipush 100, 2) := by decide +kernel
theorem dX4_now_73 : decode cX4_now 73 = .ok (.invokevirtual 177, 3) := by decide +kernel
theorem dX4_now_76 : decode cX4_now 76 = .ok (.ireturn, 1) := by decide +kernel
theorem dX4_now_77 : decode cX4_now 77 = .ok (.aload_n 0, 1) := by decide +kernel
theorem dX4_now_78 : decode cX4_now 78 = .ok (.getfield 9, 3) := by decide +kernel
theorem dX4_now_81 : decode cX4_now 81 = .ok (.iconst 5, 1) := by decide +kernel
theorem dX4_now_82 : decode cX4_now 82 = .ok (.iaload, 1) := by decide +kernel
theorem dX4_now_83 : decode cX4_now 83 = .ok (.ireturn, 1) := by decide +kernel
theorem dX4_now_84 : decode cX4_now 84 = .ok (.aload_n 0, 1) := by decide +kernel
theorem dX4_now_85 : decode cX4_now 85 = .ok (.aload_n 0, 1) := by decide +kernel
theorem dX4_now_86 : decode cX4_now 86 = .ok (.bipush 102, 2) := by decide +kernel
theorem dX4_now_88 : decode cX4_now 88 = .ok (.invokevirtual 177, 3) := by decide +kernel
theorem dX4_now_91 : decode cX4_now 91 = .ok (.invokevirtual 180, 3) := by decide +kernel
theorem dX4_now_94 : decode cX4_now 94 = .ok (.ireturn, 1) := by decide +kernel
theorem dX4_now_95 : decode cX4_now 95 = .ok (.aload_n 0, 1) := by decide +kernel
theorem dX4_now_96 : decode cX4_now 96 = .ok (.ldc 72, 2) := by decide +kernel
theorem dX4_now_98 : decode cX4_now 98 = .ok (.invokevirtual 99, 3) := by decide +kernel
theorem dX4_now_101 : decode cX4_now 101 = .ok (.ireturn, 1) := by decide +kernel
theorem dX4_run_0 : decode cX4_run 0 = .ok (.iload_n 1, 1) := by decide +kernel
theorem dX4_run_1 : decode cX4_run 1 = .ok (.invokestatic 81, 3) := by decide +kernel
theorem dX4_run_4 : decode cX4_run 4 = .ok (.ifCond .eq 11, 3) := by decide +kernel
theorem dX4_run_7 : decode cX4_run 7 = .ok (.aload_n 0, 1) := by decide +kernel
theorem dX4_run_8 : decode cX4_run 8 = .ok (.iload_n 1, 1) := by decide +kernel
theorem dX4_run_9 : decode cX4_run 9 = .ok (.invokevirtual 150, 3) := by decide +kernel
theorem dX4_run_12 : decode cX4_run 12 = .ok (.goto 9, 3) := by decide +kernel
theorem dX4_run_15 : decode cX4_run 15 = .ok (.aload_n 0, 1) := by decide +kernel
theorem dX4_run_16 : decode cX4_run 16 = .ok (.ldc 72, 2) := by decide +kernel
theorem dX4_run_18 : decode cX4_run 18 = .ok (.invokevirtual 99, 3) := by decide +kernel
theorem dX4_run_21 : decode cX4_run 21 = .ok (.ireturn, 1) := by decide +kernel
theorem dX4_weight_0 : decode cX4_weight 0 = .ok (.iload_n 1, 1) := by decide +kernel
theorem dX4_weight_1 : decode cX4_weight 1 = .ok (.invokestatic 81, 3) := by decide +kernel
theorem dX4_weight_4 : decode cX4_weight 4 = .ok (.ifCond .eq 11, 3) := by decide +kernel
theorem dX4_weight_7 : decode cX4_weight 7 = .ok (.aload_n 0, 1) := by decide +kernel
theorem dX4_weight_8 : decode cX4_weight 8 = .ok (.iload_n 1, 1) := by decide +kernel
theorem dX4_weight_9 : decode cX4_weight 9 = .ok (.invokevirtual 153, 3) := by decide +kernel
theorem dX4_weight_12 : decode cX4_weight 12 = .ok (.goto 9, 3) := by decide +kernel
theorem dX4_weight_15 : decode cX4_weight 15 = .ok (.aload_n 0, 1) := by decide +kernel
theorem dX4_weight_16 : decode cX4_weight 16 = .ok (.ldc 72, 2) := by decide +kernel
theorem dX4_weight_18 : decode cX4_weight 18 = .ok (.invokevirtual 99, 3) := by decide +kernel
theorem dX4_weight_21 : decode cX4_weight 21 = .ok (.ireturn, 1) := by decide +kernel
theorem dX4_moved_0 : decode cX4_moved 0 = .ok (.iconst 0, 1) := by decide +kernel
theorem dX4_moved_1 : decode cX4_moved 1 = .ok (.istore_n 1, 1) := by decide +kernel
theorem dX4_moved_2 : decode cX4_moved 2 = .ok (.iconst 0, 1) := by decide +kernel
theorem dX4_moved_3 : decode cX4_moved 3 = .ok (.istore_n 2, 1) := by decide +kernel
theorem dX4_moved_4 : decode cX4_moved 4 = .ok (.iload_n 2, 1) := by decide +kernel
theorem dX4_moved_5 : decode cX4_moved 5 = .ok (.bipush 7, 2) := by decide +kernel
theorem dX4_moved_7 : decode cX4_moved 7 = .ok (.if_icmp .ge 27, 3) := by decide +kernel
theorem dX4_moved_10 : decode cX4_moved 10 = .ok (.iload_n 1, 1) := by decide +kernel
theorem dX4_moved_11 : decode cX4_moved 11 = .ok (.aload_n 0, 1) := by decide +kernel
theorem dX4_moved_12 : decode cX4_moved 12 = .ok (.iload_n 2, 1) := by decide +kernel
theorem dX4_moved_13 : decode cX4_moved 13 = .ok (.invokevirtual 162, 3) := by decide +kernel
theorem dX4_moved_16 : decode cX4_moved 16 = .ok (.ifCond .eq 9, 3) := by decide +kernel
theorem dX4_moved_19 : decode cX4_moved 19 = .ok (.iconst 1, 1) := by decide +kernel
theorem dX4_moved_20 : decode cX4_moved 20 = .ok (.iload_n 2, 1) := by decide +kernel
theorem dX4_moved_21 : decode cX4_moved 21 = .ok (.ishl, 1) := by decide +kernel
theorem dX4_moved_22 : decode cX4_moved 22 = .ok (.goto 4, 3) := by decide +kernel
theorem dX4_moved_25 : decode cX4_moved 25 = .ok (.iconst 0, 1) := by decide +kernel
theorem dX4_moved_26 : decode cX4_moved 26 = .ok (.ior, 1) := by decide +kernel
theorem dX4_moved_27 : decode cX4_moved 27 = .ok (.istore_n 1, 1) := by decide +kernel
theorem dX4_moved_28 : decode cX4_moved 28 = .ok (.iinc 2 1, 3) := by decide +kernel
theorem dX4_moved_31 : decode cX4_moved 31 = .ok (.goto (-27), 3) := by decide +kernel
theorem dX4_moved_34 : decode cX4_moved 34 = .ok (.iload_n 1, 1) := by decide +kernel
theorem dX4_moved_35 : decode cX4_moved 35 = .ok (.ireturn, 1) := by decide +kernel
theorem dX4_leaning_0 : decode cX4_leaning 0 = .ok (.iconst 0, 1) := by decide +kernel
theorem dX4_leaning_1 : decode cX4_leaning 1 = .ok (.istore_n 1, 1) := by decide +kernel
theorem dX4_leaning_2 : decode cX4_leaning 2 = .ok (.iconst 0, 1) := by decide +kernel
theorem dX4_leaning_3 : decode cX4_leaning 3 = .ok (.istore_n 2, 1) := by decide +kernel
theorem dX4_leaning_4 : decode cX4_leaning 4 = .ok (.iload_n 2, 1) := by decide +kernel
theorem dX4_leaning_5 : decode cX4_leaning 5 = .ok (.bipush 7, 2) := by decide +kernel
theorem dX4_leaning_7 : decode cX4_leaning 7 = .ok (.if_icmp .ge 40, 3) := by decide +kernel
theorem dX4_leaning_10 : decode cX4_leaning 10 = .ok (.iconst 0, 1) := by decide +kernel
theorem dX4_leaning_11 : decode cX4_leaning 11 = .ok (.istore_n 3, 1) := by decide +kernel
theorem dX4_leaning_12 : decode cX4_leaning 12 = .ok (.iload_n 3, 1) := by decide +kernel
theorem dX4_leaning_13 : decode cX4_leaning 13 = .ok (.bipush 6, 2) := by decide +kernel
theorem dX4_leaning_15 : decode cX4_leaning 15 = .ok (.if_icmp .ge 26, 3) := by decide +kernel
theorem dX4_leaning_18 : decode cX4_leaning 18 = .ok (.iload_n 1, 1) := by decide +kernel
theorem dX4_leaning_19 : decode cX4_leaning 19 = .ok (.aload_n 0, 1) := by decide +kernel
theorem dX4_leaning_20 : decode cX4_leaning 20 = .ok (.iload_n 2, 1) := by decide +kernel
theorem dX4_leaning_21 : decode cX4_leaning 21 = .ok (.iload_n 3, 1) := by decide +kernel
theorem dX4_leaning_22 : decode cX4_leaning 22 = .ok (.invokevirtual 168, 3) := by decide +kernel
theorem dX4_leaning_25 : decode cX4_leaning 25 = .ok (.ifCond .eq 7, 3) := by decide +kernel
theorem dX4_leaning_28 : decode cX4_leaning 28 = .ok (.iconst 1, 1) := by decide +kernel
theorem dX4_leaning_29 : decode cX4_leaning 29 = .ok (.goto 4, 3) := by decide +kernel
theorem dX4_leaning_32 : decode cX4_leaning 32 = .ok (.iconst 0, 1) := by decide +kernel
theorem dX4_leaning_33 : decode cX4_leaning 33 = .ok (.iadd, 1) := by decide +kernel
theorem dX4_leaning_34 : decode cX4_leaning 34 = .ok (.istore_n 1, 1) := by decide +kernel
theorem dX4_leaning_35 : decode cX4_leaning 35 = .ok (.iinc 3 1, 3) := by decide +kernel
theorem dX4_leaning_38 : decode cX4_leaning 38 = .ok (.goto (-26), 3) := by decide +kernel
theorem dX4_leaning_41 : decode cX4_leaning 41 = .ok (.iinc 2 1, 3) := by decide +kernel
theorem dX4_leaning_44 : decode cX4_leaning 44 = .ok (.goto (-40), 3) := by decide +kernel
theorem dX4_leaning_47 : decode cX4_leaning 47 = .ok (.iload_n 1, 1) := by decide +kernel
theorem dX4_leaning_48 : decode cX4_leaning 48 = .ok (.ireturn, 1) := by decide +kernel
theorem dX4_bits_0 : decode cX4_bits 0 = .ok (.iconst 0, 1) := by decide +kernel
theorem dX4_bits_1 : decode cX4_bits 1 = .ok (.istore_n 1, 1) := by decide +kernel
theorem dX4_bits_2 : decode cX4_bits 2 = .ok (.iload_n 0, 1) := by decide +kernel
theorem dX4_bits_3 : decode cX4_bits 3 = .ok (.istore_n 2, 1) := by decide +kernel
theorem dX4_bits_4 : decode cX4_bits 4 = .ok (.iload_n 2, 1) := by decide +kernel
theorem dX4_bits_5 : decode cX4_bits 5 = .ok (.ifCond .eq 15, 3) := by decide +kernel
theorem dX4_bits_8 : decode cX4_bits 8 = .ok (.iinc 1 1, 3) := by decide +kernel
theorem dX4_bits_11 : decode cX4_bits 11 = .ok (.iload_n 2, 1) := by decide +kernel
theorem dX4_bits_12 : decode cX4_bits 12 = .ok (.iload_n 2, 1) := by decide +kernel
theorem dX4_bits_13 : decode cX4_bits 13 = .ok (.iconst 1, 1) := by decide +kernel
theorem dX4_bits_14 : decode cX4_bits 14 = .ok (.isub, 1) := by decide +kernel
theorem dX4_bits_15 : decode cX4_bits 15 = .ok (.iand, 1) := by decide +kernel
theorem dX4_bits_16 : decode cX4_bits 16 = .ok (.istore_n 2, 1) := by decide +kernel
theorem dX4_bits_17 : decode cX4_bits 17 = .ok (.goto (-13), 3) := by decide +kernel
theorem dX4_bits_20 : decode cX4_bits 20 = .ok (.iload_n 1, 1) := by decide +kernel
theorem dX4_bits_21 : decode cX4_bits 21 = .ok (.ireturn, 1) := by decide +kernel
theorem dX4_highest_0 : decode cX4_highest 0 = .ok (.iconst 0, 1) := by decide +kernel
theorem dX4_highest_1 : decode cX4_highest 1 = .ok (.istore_n 1, 1) := by decide +kernel
theorem dX4_highest_2 : decode cX4_highest 2 = .ok (.iconst 0, 1) := by decide +kernel
theorem dX4_highest_3 : decode cX4_highest 3 = .ok (.istore_n 2, 1) := by decide +kernel
theorem dX4_highest_4 : decode cX4_highest 4 = .ok (.iload_n 2, 1) := by decide +kernel
theorem dX4_highest_5 : decode cX4_highest 5 = .ok (.bipush 42, 2) := by decide +kernel
theorem dX4_highest_7 : decode cX4_highest 7 = .ok (.if_icmp .ge 19, 3) := by decide +kernel
theorem dX4_highest_10 : decode cX4_highest 10 = .ok (.iload_n 1, 1) := by decide +kernel
theorem dX4_highest_11 : decode cX4_highest 11 = .ok (.aload_n 0, 1) := by decide +kernel
theorem dX4_highest_12 : decode cX4_highest 12 = .ok (.iload_n 2, 1) := by decide +kernel
theorem dX4_highest_13 : decode cX4_highest 13 = .ok (.invokevirtual 85, 3) := by decide +kernel
theorem dX4_highest_16 : decode cX4_highest 16 = .ok (.invokestatic 199, 3) := by decide +kernel
theorem dX4_highest_19 : decode cX4_highest 19 = .ok (.istore_n 1, 1) := by decide +kernel
theorem dX4_highest_20 : decode cX4_highest 20 = .ok (.iinc 2 1, 3) := by decide +kernel
theorem dX4_highest_23 : decode cX4_highest 23 = .ok (.goto (-19), 3) := by decide +kernel
theorem dX4_highest_26 : decode cX4_highest 26 = .ok (.iload_n 1, 1) := by decide +kernel
theorem dX4_highest_27 : decode cX4_highest 27 = .ok (.ireturn, 1) := by decide +kernel
theorem dX4_ahead_0 : decode cX4_ahead 0 = .ok (.iload_n 1, 1) := by decide +kernel
theorem dX4_ahead_1 : decode cX4_ahead 1 = .ok (.iconst 0, 1) := by decide +kernel
theorem dX4_ahead_2 : decode cX4_ahead 2 = .ok (.bipush 60, 2) := by decide +kernel
theorem dX4_ahead_4 : decode cX4_ahead 4 = .ok (.invokestatic 77, 3) := by decide +kernel
theorem dX4_ahead_7 : decode cX4_ahead 7 = .ok (.ifCond .eq 12, 3) := by decide +kernel
theorem dX4_ahead_10 : decode cX4_ahead 10 = .ok (.iload_n 2, 1) := by decide +kernel
theorem dX4_ahead_11 : decode cX4_ahead 11 = .ok (.iconst 0, 1) := by decide +kernel
theorem dX4_ahead_12 : decode cX4_ahead 12 = .ok (.iconst 3, 1) := by decide +kernel
theorem dX4_ahead_13 : decode cX4_ahead 13 = .ok (.invokestatic 77, 3) := by decide +kernel
theorem dX4_ahead_16 : decode cX4_ahead 16 = .ok (.ifCond .ne 10, 3) := by decide +kernel
theorem dX4_ahead_19 : decode cX4_ahead 19 = .ok (.aload_n 0, 1) := by decide +kernel
theorem dX4_ahead_20 : decode cX4_ahead 20 = .ok (.ldc 72, 2) := by decide +kernel
theorem dX4_ahead_22 : decode cX4_ahead 22 = .ok (.invokevirtual 99, 3) := by decide +kernel
theorem dX4_ahead_25 : decode cX4_ahead 25 = .ok (.ireturn, 1) := by decide +kernel
theorem dX4_ahead_26 : decode cX4_ahead 26 = .ok (.aload_n 0, 1) := by decide +kernel
theorem dX4_ahead_27 : decode cX4_ahead 27 = .ok (.iload_n 1, 1) := by decide +kernel
theorem dX4_ahead_28 : decode cX4_ahead 28 = .ok (.invokevirtual 193, 3) := by decide +kernel
theorem dX4_ahead_31 : decode cX4_ahead 31 = .ok (.ifCond .eq 10, 3) := by decide +kernel
theorem dX4_ahead_34 : decode cX4_ahead 34 = .ok (.aload_n 0, 1) := by decide +kernel
theorem dX4_ahead_35 : decode cX4_ahead 35 = .ok (.ldc 137, 2) := by decide +kernel
theorem dX4_ahead_37 : decode cX4_ahead 37 = .ok (.invokevirtual 99, 3) := by decide +kernel
theorem dX4_ahead_40 : decode cX4_ahead 40 = .ok (.ireturn, 1) := by decide +kernel
theorem dX4_ahead_41 : decode cX4_ahead 41 = .ok (.aload_n 0, 1) := by decide +kernel
theorem dX4_ahead_42 : decode cX4_ahead 42 = .ok (.getfield 9, 3) := by decide +kernel
theorem dX4_ahead_45 : decode cX4_ahead 45 = .ok (.aload_n 0, 1) := by decide +kernel
theorem dX4_ahead_46 : decode cX4_ahead 46 = .ok (.getfield 16, 3) := by decide +kernel
theorem dX4_ahead_49 : decode cX4_ahead 49 = .ok (.invokestatic 73, 3) := by decide +kernel
theorem dX4_ahead_52 : decode cX4_ahead 52 = .ok (.aload_n 0, 1) := by decide +kernel
theorem dX4_ahead_53 : decode cX4_ahead 53 = .ok (.bipush 101, 2) := by decide +kernel
theorem dX4_ahead_55 : decode cX4_ahead 55 = .ok (.invokevirtual 177, 3) := by decide +kernel
theorem dX4_ahead_58 : decode cX4_ahead 58 = .ok (.istore_n 3, 1) := by decide +kernel
theorem dX4_ahead_59 : decode cX4_ahead 59 = .ok (.aload_n 0, 1) := by decide +kernel
theorem dX4_ahead_60 : decode cX4_ahead 60 = .ok (.iload_n 1, 1) := by decide +kernel
theorem dX4_ahead_61 : decode cX4_ahead 61 = .ok (.invokevirtual 196, 3) := by decide +kernel
theorem dX4_ahead_64 : decode cX4_ahead 64 = .ok (.istore 4, 2) := by decide +kernel
theorem dX4_ahead_66 : decode cX4_ahead 66 = .ok (.aload_n 0, 1) := by decide +kernel
theorem dX4_ahead_67 : decode cX4_ahead 67 = .ok (.iload_n 2, 1) := by decide +kernel
theorem dX4_ahead_68 : decode cX4_ahead 68 = .ok (.ifCond .ne 20, 3) := by decide +kernel
theorem dX4_ahead_71 : decode cX4_ahead 71 = .ok (.aload_n 0, 1) := by decide +kernel
theorem dX4_ahead_72 : decode cX4_ahead 72 = .ok (.aload_n 0, 1) := by decide +kernel
theorem dX4_ahead_73 : decode cX4_ahead 73 = .ok (.bipush 101, 2) := by decide +kernel
theorem dX4_ahead_75 : decode cX4_ahead 75 = .ok (.invokevirtual 177, 3) := by decide +kernel
theorem dX4_ahead_78 : decode cX4_ahead 78 = .ok (.iload_n 3, 1) := by decide +kernel
theorem dX4_ahead_79 : decode cX4_ahead 79 = .ok (.iconst (-1), 1) := by decide +kernel
theorem dX4_ahead_80 : decode cX4_ahead 80 = .ok (.ixor, 1) := by decide +kernel
theorem dX4_ahead_81 : decode cX4_ahead 81 = .ok (.iand, 1) := by decide +kernel
theorem dX4_ahead_82 : decode cX4_ahead 82 = .ok (.invokevirtual 180, 3) := by decide +kernel
theorem dX4_ahead_85 : decode cX4_ahead 85 = .ok (.goto 29, 3) := by decide +kernel
theorem dX4_ahead_88 : decode cX4_ahead 88 = .ok (.iload_n 2, 1) := by decide +kernel
theorem dX4_ahead_89 : decode cX4_ahead 89 = .ok (.iconst 1, 1) := by decide +kernel
theorem dX4_ahead_90 : decode cX4_ahead 90 = .ok (.if_icmp .ne 8, 3) := by decide +kernel
theorem dX4_ahead_93 : decode cX4_ahead 93 = .ok (.iload 4, 2) := by decide +kernel
theorem dX4_ahead_95 : decode cX4_ahead 95 = .ok (.goto 19, 3) := by decide +kernel
theorem dX4_ahead_98 : decode cX4_ahead 98 = .ok (.iload_n 2, 1) := by decide +kernel
theorem dX4_ahead_99 : decode cX4_ahead 99 = .ok (.iconst 2, 1) := by decide +kernel
theorem dX4_ahead_100 : decode cX4_ahead 100 = .ok (.if_icmp .ne 10, 3) := by decide +kernel
theorem dX4_ahead_103 : decode cX4_ahead 103 = .ok (.aload_n 0, 1) := by decide +kernel
theorem dX4_ahead_104 : decode cX4_ahead 104 = .ok (.invokevirtual 204, 3) := by decide +kernel
theorem dX4_ahead_107 : decode cX4_ahead 107 = .ok (.goto 7, 3) := by decide +kernel
theorem dX4_ahead_110 : decode cX4_ahead 110 = .ok (.aload_n 0, 1) := by decide +kernel
theorem dX4_ahead_111 : decode cX4_ahead 111 = .ok (.invokevirtual 207, 3) := by decide +kernel
theorem dX4_ahead_114 : decode cX4_ahead 114 = .ok (.invokevirtual 210, 3) := by decide +kernel
theorem dX4_ahead_117 : decode cX4_ahead 117 = .ok (.ireturn, 1) := by decide +kernel
theorem dX4_falls_0 : decode cX4_falls 0 = .ok (.aload_n 0, 1) := by decide +kernel
theorem dX4_falls_1 : decode cX4_falls 1 = .ok (.iload_n 1, 1) := by decide +kernel
theorem dX4_falls_2 : decode cX4_falls 2 = .ok (.invokevirtual 116, 3) := by decide +kernel
theorem dX4_falls_5 : decode cX4_falls 5 = .ok (.ifCond .ne 10, 3) := by decide +kernel
theorem dX4_falls_8 : decode cX4_falls 8 = .ok (.aload_n 0, 1) := by decide +kernel
theorem dX4_falls_9 : decode cX4_falls 9 = .ok (.ldc 72, 2) := by decide +kernel
theorem dX4_falls_11 : decode cX4_falls 11 = .ok (.invokevirtual 99, 3) := by decide +kernel
theorem dX4_falls_14 : decode cX4_falls 14 = .ok (.ireturn, 1) := by decide +kernel
theorem dX4_falls_15 : decode cX4_falls 15 = .ok (.aload_n 0, 1) := by decide +kernel
theorem dX4_falls_16 : decode cX4_falls 16 = .ok (.iload_n 1, 1) := by decide +kernel
theorem dX4_falls_17 : decode cX4_falls 17 = .ok (.invokevirtual 213, 3) := by decide +kernel
theorem dX4_falls_20 : decode cX4_falls 20 = .ok (.ifCond .eq 12, 3) := by decide +kernel
theorem dX4_falls_23 : decode cX4_falls 23 = .ok (.aload_n 0, 1) := by decide +kernel
theorem dX4_falls_24 : decode cX4_falls 24 = .ok (.bipush 60, 2) := by decide +kernel
theorem dX4_falls_26 : decode cX4_falls 26 = .ok (.invokevirtual 193, 3) := by decide +kernel
theorem dX4_falls_29 : decode cX4_falls 29 = .ok (.ifCond .eq 10, 3) := by decide +kernel
theorem dX4_falls_32 : decode cX4_falls 32 = .ok (.aload_n 0, 1) := by decide +kernel
theorem dX4_falls_33 : decode cX4_falls 33 = .ok (.ldc 137, 2) := by decide +kernel
theorem dX4_falls_35 : decode cX4_falls 35 = .ok (.invokevirtual 99, 3) := by decide +kernel
theorem dX4_falls_38 : decode cX4_falls 38 = .ok (.ireturn, 1) := by decide +kernel
theorem dX4_falls_39 : decode cX4_falls 39 = .ok (.aload_n 0, 1) := by decide +kernel
theorem dX4_falls_40 : decode cX4_falls 40 = .ok (.getfield 9, 3) := by decide +kernel
theorem dX4_falls_43 : decode cX4_falls 43 = .ok (.aload_n 0, 1) := by decide +kernel
theorem dX4_falls_44 : decode cX4_falls 44 = .ok (.getfield 16, 3) := by decide +kernel
theorem dX4_falls_47 : decode cX4_falls 47 = .ok (.invokestatic 73, 3) := by decide +kernel
theorem dX4_falls_50 : decode cX4_falls 50 = .ok (.iconst 0, 1) := by decide +kernel
theorem dX4_falls_51 : decode cX4_falls 51 = .ok (.istore_n 2, 1) := by decide +kernel
theorem dX4_falls_52 : decode cX4_falls 52 = .ok (.iload_n 2, 1) := by decide +kernel
theorem dX4_falls_53 : decode cX4_falls 53 = .ok (.bipush 60, 2) := by decide +kernel
theorem dX4_falls_55 : decode cX4_falls 55 = .ok (.if_icmp .gt 21, 3) := by decide +kernel
theorem dX4_falls_58 : decode cX4_falls 58 = .ok (.aload_n 0, 1) := by decide +kernel
theorem dX4_falls_59 : decode cX4_falls 59 = .ok (.iload_n 1, 1) := by decide +kernel
theorem dX4_falls_60 : decode cX4_falls 60 = .ok (.invokevirtual 213, 3) := by decide +kernel
theorem dX4_falls_63 : decode cX4_falls 63 = .ok (.ifCond .eq 13, 3) := by decide +kernel
theorem dX4_falls_66 : decode cX4_falls 66 = .ok (.aload_n 0, 1) := by decide +kernel
theorem dX4_falls_67 : decode cX4_falls 67 = .ok (.invokevirtual 174, 3) := by decide +kernel
theorem dX4_falls_70 : decode cX4_falls 70 = .ok (.iinc 2 1, 3) := by decide +kernel
theorem dX4_falls_73 : decode cX4_falls 73 = .ok (.goto (-21), 3) := by decide +kernel
theorem dX4_falls_76 : decode cX4_falls 76 = .ok (.aload_n 0, 1) := by decide +kernel
theorem dX4_falls_77 : decode cX4_falls 77 = .ok (.iload_n 2, 1) := by decide +kernel
theorem dX4_falls_78 : decode cX4_falls 78 = .ok (.invokevirtual 210, 3) := by decide +kernel
theorem dX4_falls_81 : decode cX4_falls 81 = .ok (.bipush 60, 2) := by decide +kernel
theorem dX4_falls_83 : decode cX4_falls 83 = .ok (.if_icmp .le 12, 3) := by decide +kernel
theorem dX4_falls_86 : decode cX4_falls 86 = .ok (.aload_n 0, 1) := by decide +kernel
theorem dX4_falls_87 : decode cX4_falls 87 = .ok (.ldc 142, 2) := by decide +kernel
theorem dX4_falls_89 : decode cX4_falls 89 = .ok (.invokevirtual 99, 3) := by decide +kernel
theorem dX4_falls_92 : decode cX4_falls 92 = .ok (.goto 4, 3) := by decide +kernel
theorem dX4_falls_95 : decode cX4_falls 95 = .ok (.iload_n 2, 1) := by decide +kernel
theorem dX4_falls_96 : decode cX4_falls 96 = .ok (.ireturn, 1) := by decide +kernel
theorem dX4_rest_0 : decode cX4_rest 0 = .ok (.aload_n 0, 1) := by decide +kernel
theorem dX4_rest_1 : decode cX4_rest 1 = .ok (.getfield 9, 3) := by decide +kernel
theorem dX4_rest_4 : decode cX4_rest 4 = .ok (.iconst 0, 1) := by decide +kernel
theorem dX4_rest_5 : decode cX4_rest 5 = .ok (.iaload, 1) := by decide +kernel
theorem dX4_rest_6 : decode cX4_rest 6 = .ok (.sipush 9930, 3) := by decide +kernel
theorem dX4_rest_9 : decode cX4_rest 9 = .ok (.if_icmp .le 10, 3) := by decide +kernel
theorem dX4_rest_12 : decode cX4_rest 12 = .ok (.aload_n 0, 1) := by decide +kernel
theorem dX4_rest_13 : decode cX4_rest 13 = .ok (.ldc 137, 2) := by decide +kernel
theorem dX4_rest_15 : decode cX4_rest 15 = .ok (.invokevirtual 99, 3) := by decide +kernel
theorem dX4_rest_18 : decode cX4_rest 18 = .ok (.ireturn, 1) := by decide +kernel
theorem dX4_rest_19 : decode cX4_rest 19 = .ok (.aload_n 0, 1) := by decide +kernel
theorem dX4_rest_20 : decode cX4_rest 20 = .ok (.getfield 9, 3) := by decide +kernel
theorem dX4_rest_23 : decode cX4_rest 23 = .ok (.aload_n 0, 1) := by decide +kernel
theorem dX4_rest_24 : decode cX4_rest 24 = .ok (.getfield 16, 3) := by decide +kernel
theorem dX4_rest_27 : decode cX4_rest 27 = .ok (.invokestatic 73, 3) := by decide +kernel
theorem dX4_rest_30 : decode cX4_rest 30 = .ok (.iconst 0, 1) := by decide +kernel
theorem dX4_rest_31 : decode cX4_rest 31 = .ok (.istore_n 1, 1) := by decide +kernel
theorem dX4_rest_32 : decode cX4_rest 32 = .ok (.iconst 0, 1) := by decide +kernel
theorem dX4_rest_33 : decode cX4_rest 33 = .ok (.istore_n 2, 1) := by decide +kernel
theorem dX4_rest_34 : decode cX4_rest 34 = .ok (.iload_n 2, 1) := by decide +kernel
theorem dX4_rest_35 : decode cX4_rest 35 = .ok (.bipush 60, 2) := by decide +kernel
theorem dX4_rest_37 : decode cX4_rest 37 = .ok (.aload_n 0, 1) := by decide +kernel
theorem dX4_rest_38 : decode cX4_rest 38 = .ok (.getfield 9, 3) := by decide +kernel
theorem dX4_rest_41 : decode cX4_rest 41 = .ok (.iconst 2, 1) := by decide +kernel
theorem dX4_rest_42 : decode cX4_rest 42 = .ok (.iaload, 1) := by decide +kernel
theorem dX4_rest_43 : decode cX4_rest 43 = .ok (.iadd, 1) := by decide +kernel
theorem dX4_rest_44 : decode cX4_rest 44 = .ok (.if_icmp .ge 44, 3) := by decide +kernel
theorem dX4_rest_47 : decode cX4_rest 47 = .ok (.iload_n 1, 1) := by decide +kernel
theorem dX4_rest_48 : decode cX4_rest 48 = .ok (.aload_n 0, 1) := by decide +kernel
theorem dX4_rest_49 : decode cX4_rest 49 = .ok (.getfield 9, 3) := by decide +kernel
theorem dX4_rest_52 : decode cX4_rest 52 = .ok (.iconst 2, 1) := by decide +kernel
theorem dX4_rest_53 : decode cX4_rest 53 = .ok (.iaload, 1) := by decide +kernel
theorem dX4_rest_54 : decode cX4_rest 54 = .ok (.if_icmp .ge 34, 3) := by decide +kernel
theorem dX4_rest_57 : decode cX4_rest 57 = .ok (.aload_n 0, 1) := by decide +kernel
theorem dX4_rest_58 : decode cX4_rest 58 = .ok (.getfield 159, 3) := by decide +kernel
theorem dX4_rest_61 : decode cX4_rest 61 = .ok (.istore_n 3, 1) := by decide +kernel
theorem dX4_rest_62 : decode cX4_rest 62 = .ok (.aload_n 0, 1) := by decide +kernel
theorem dX4_rest_63 : decode cX4_rest 63 = .ok (.invokevirtual 174, 3) := by decide +kernel
theorem dX4_rest_66 : decode cX4_rest 66 = .ok (.iinc 2 1, 3) := by decide +kernel
theorem dX4_rest_69 : decode cX4_rest 69 = .ok (.aload_n 0, 1) := by decide +kernel
theorem dX4_rest_70 : decode cX4_rest 70 = .ok (.getfield 159, 3) := by decide +kernel
theorem dX4_rest_73 : decode cX4_rest 73 = .ok (.iload_n 3, 1) := by decide +kernel
theorem dX4_rest_74 : decode cX4_rest 74 = .ok (.if_icmp .ne 9, 3) := by decide +kernel
theorem dX4_rest_77 : decode cX4_rest 77 = .ok (.iload_n 1, 1) := by decide +kernel
theorem dX4_rest_78 : decode cX4_rest 78 = .ok (.iconst 1, 1) := by decide +kernel
theorem dX4_rest_79 : decode cX4_rest 79 = .ok (.iadd, 1) := by decide +kernel
theorem dX4_rest_80 : decode cX4_rest 80 = .ok (.goto 4, 3) := by decide +kernel
theorem dX4_rest_83 : decode cX4_rest 83 = .ok (.iconst 0, 1) := by decide +kernel
theorem dX4_rest_84 : decode cX4_rest 84 = .ok (.istore_n 1, 1) := by decide +kernel
theorem dX4_rest_85 : decode cX4_rest 85 = .ok (.goto (-51), 3) := by decide +kernel
theorem dX4_rest_88 : decode cX4_rest 88 = .ok (.iload_n 1, 1) := by decide +kernel
theorem dX4_rest_89 : decode cX4_rest 89 = .ok (.aload_n 0, 1) := by decide +kernel
theorem dX4_rest_90 : decode cX4_rest 90 = .ok (.getfield 9, 3) := by decide +kernel
theorem dX4_rest_93 : decode cX4_rest 93 = .ok (.iconst 2, 1) := by decide +kernel
theorem dX4_rest_94 : decode cX4_rest 94 = .ok (.iaload, 1) := by decide +kernel
theorem dX4_rest_95 : decode cX4_rest 95 = .ok (.if_icmp .ge 7, 3) := by decide +kernel
theorem dX4_rest_98 : decode cX4_rest 98 = .ok (.iconst (-1), 1) := by decide +kernel
theorem dX4_rest_99 : decode cX4_rest 99 = .ok (.goto 6, 3) := by decide +kernel
theorem dX4_rest_102 : decode cX4_rest 102 = .ok (.iload_n 2, 1) := by decide +kernel
theorem dX4_rest_103 : decode cX4_rest 103 = .ok (.iload_n 1, 1) := by decide +kernel
theorem dX4_rest_104 : decode cX4_rest 104 = .ok (.isub, 1) := by decide +kernel
theorem dX4_rest_105 : decode cX4_rest 105 = .ok (.istore_n 3, 1) := by decide +kernel
theorem dX4_rest_106 : decode cX4_rest 106 = .ok (.aload_n 0, 1) := by decide +kernel
theorem dX4_rest_107 : decode cX4_rest 107 = .ok (.iload_n 3, 1) := by decide +kernel
theorem dX4_rest_108 : decode cX4_rest 108 = .ok (.invokevirtual 210, 3) := by decide +kernel
theorem dX4_rest_111 : decode cX4_rest 111 = .ok (.ifCond .ge 12, 3) := by decide +kernel
theorem dX4_rest_114 : decode cX4_rest 114 = .ok (.aload_n 0, 1) := by decide +kernel
theorem dX4_rest_115 : decode cX4_rest 115 = .ok (.ldc 142, 2) := by decide +kernel
theorem dX4_rest_117 : decode cX4_rest 117 = .ok (.invokevirtual 99, 3) := by decide +kernel
theorem dX4_rest_120 : decode cX4_rest 120 = .ok (.goto 4, 3) := by decide +kernel
theorem dX4_rest_123 : decode cX4_rest 123 = .ok (.iload_n 3, 1) := by decide +kernel
theorem dX4_rest_124 : decode cX4_rest 124 = .ok (.ireturn, 1) := by decide +kernel
theorem dX4_refuses_0 : decode cX4_refuses 0 = .ok (.aload_n 0, 1) := by decide +kernel
theorem dX4_refuses_1 : decode cX4_refuses 1 = .ok (.iload_n 1, 1) := by decide +kernel
theorem dX4_refuses_2 : decode cX4_refuses 2 = .ok (.invokevirtual 116, 3) := by decide +kernel
theorem dX4_refuses_5 : decode cX4_refuses 5 = .ok (.ifCond .eq 13, 3) := by decide +kernel
theorem dX4_refuses_8 : decode cX4_refuses 8 = .ok (.iload_n 2, 1) := by decide +kernel
theorem dX4_refuses_9 : decode cX4_refuses 9 = .ok (.iconst 0, 1) := by decide +kernel
theorem dX4_refuses_10 : decode cX4_refuses 10 = .ok (.bipush 20, 2) := by decide +kernel
theorem dX4_refuses_12 : decode cX4_refuses 12 = .ok (.invokestatic 77, 3) := by decide +kernel
theorem dX4_refuses_15 : decode cX4_refuses 15 = .ok (.ifCond .ne 8, 3) := by decide +kernel
theorem dX4_refuses_18 : decode cX4_refuses 18 = .ok (.ldc 72, 2) := by decide +kernel
theorem dX4_refuses_20 : decode cX4_refuses 20 = .ok (.goto 29, 3) := by decide +kernel
theorem dX4_refuses_23 : decode cX4_refuses 23 = .ok (.aload_n 0, 1) := by decide +kernel
theorem dX4_refuses_24 : decode cX4_refuses 24 = .ok (.iload_n 1, 1) := by decide +kernel
theorem dX4_refuses_25 : decode cX4_refuses 25 = .ok (.invokevirtual 183, 3) := by decide +kernel
theorem dX4_refuses_28 : decode cX4_refuses 28 = .ok (.ifCond .eq 15, 3) := by decide +kernel
theorem dX4_refuses_31 : decode cX4_refuses 31 = .ok (.aload_n 0, 1) := by decide +kernel
theorem dX4_refuses_32 : decode cX4_refuses 32 = .ok (.getfield 9, 3) := by decide +kernel
theorem dX4_refuses_35 : decode cX4_refuses 35 = .ok (.iconst 0, 1) := by decide +kernel
theorem dX4_refuses_36 : decode cX4_refuses 36 = .ok (.iaload, 1) := by decide +kernel
theorem dX4_refuses_37 : decode cX4_refuses 37 = .ok (.sipush 9900, 3) := by decide +kernel
theorem dX4_refuses_40 : decode cX4_refuses 40 = .ok (.if_icmp .le 8, 3) := by decide +kernel
theorem dX4_refuses_43 : decode cX4_refuses 43 = .ok (.ldc 137, 2) := by decide +kernel
theorem dX4_refuses_45 : decode cX4_refuses 45 = .ok (.goto 4, 3) := by decide +kernel
theorem dX4_refuses_48 : decode cX4_refuses 48 = .ok (.iconst 0, 1) := by decide +kernel
theorem dX4_refuses_49 : decode cX4_refuses 49 = .ok (.ireturn, 1) := by decide +kernel
theorem dX4_gainBy_0 : decode cX4_gainBy 0 = .ok (.aload_n 0, 1) := by decide +kernel
theorem dX4_gainBy_1 : decode cX4_gainBy 1 = .ok (.iload_n 1, 1) := by decide +kernel
theorem dX4_gainBy_2 : decode cX4_gainBy 2 = .ok (.invokevirtual 196, 3) := by decide +kernel
theorem dX4_gainBy_5 : decode cX4_gainBy 5 = .ok (.istore 5, 2) := by decide +kernel
theorem dX4_gainBy_7 : decode cX4_gainBy 7 = .ok (.aload_n 0, 1) := by decide +kernel
theorem dX4_gainBy_8 : decode cX4_gainBy 8 = .ok (.iload_n 2, 1) := by decide +kernel
theorem dX4_gainBy_9 : decode cX4_gainBy 9 = .ok (.iload_n 3, 1) := by decide +kernel
theorem dX4_gainBy_10 : decode cX4_gainBy 10 = .ok (.invokevirtual 190, 3) := by decide +kernel
theorem dX4_gainBy_13 : decode cX4_gainBy 13 = .ok (.iload 5, 2) := by decide +kernel
theorem dX4_gainBy_15 : decode cX4_gainBy 15 = .ok (.aload_n 0, 1) := by decide +kernel
theorem dX4_gainBy_16 : decode cX4_gainBy 16 = .ok (.iload 4, 2) := by decide +kernel
theorem dX4_gainBy_18 : decode cX4_gainBy 18 = .ok (.invokevirtual 196, 3) := by decide +kernel
theorem dX4_gainBy_21 : decode cX4_gainBy 21 = .ok (.iadd, 1) := by decide +kernel
theorem dX4_gainBy_22 : decode cX4_gainBy 22 = .ok (.istore 5, 2) := by decide +kernel
theorem dX4_gainBy_24 : decode cX4_gainBy 24 = .ok (.aload_n 0, 1) := by decide +kernel
theorem dX4_gainBy_25 : decode cX4_gainBy 25 = .ok (.iload 5, 2) := by decide +kernel
theorem dX4_gainBy_27 : decode cX4_gainBy 27 = .ok (.ifCond .ge 8, 3) := by decide +kernel
theorem dX4_gainBy_30 : decode cX4_gainBy 30 = .ok (.iload 5, 2) := by decide +kernel
theorem dX4_gainBy_32 : decode cX4_gainBy 32 = .ok (.goto 7, 3) := by decide +kernel
theorem dX4_gainBy_35 : decode cX4_gainBy 35 = .ok (.aload_n 0, 1) := by decide +kernel
theorem dX4_gainBy_36 : decode cX4_gainBy 36 = .ok (.invokevirtual 186, 3) := by decide +kernel
theorem dX4_gainBy_39 : decode cX4_gainBy 39 = .ok (.invokevirtual 210, 3) := by decide +kernel
theorem dX4_gainBy_42 : decode cX4_gainBy 42 = .ok (.ireturn, 1) := by decide +kernel
theorem dX4_brings_0 : decode cX4_brings 0 = .ok (.aload_n 0, 1) := by decide +kernel
theorem dX4_brings_1 : decode cX4_brings 1 = .ok (.iload_n 1, 1) := by decide +kernel
theorem dX4_brings_2 : decode cX4_brings 2 = .ok (.iload_n 3, 1) := by decide +kernel
theorem dX4_brings_3 : decode cX4_brings 3 = .ok (.invokevirtual 216, 3) := by decide +kernel
theorem dX4_brings_6 : decode cX4_brings 6 = .ok (.istore 4, 2) := by decide +kernel
theorem dX4_brings_8 : decode cX4_brings 8 = .ok (.iload 4, 2) := by decide +kernel
theorem dX4_brings_10 : decode cX4_brings 10 = .ok (.ldc 72, 2) := by decide +kernel
theorem dX4_brings_12 : decode cX4_brings 12 = .ok (.if_icmp .eq 10, 3) := by decide +kernel
theorem dX4_brings_15 : decode cX4_brings 15 = .ok (.iload_n 2, 1) := by decide +kernel
theorem dX4_brings_16 : decode cX4_brings 16 = .ok (.invokestatic 81, 3) := by decide +kernel
theorem dX4_brings_19 : decode cX4_brings 19 = .ok (.ifCond .ne 10, 3) := by decide +kernel
theorem dX4_brings_22 : decode cX4_brings 22 = .ok (.aload_n 0, 1) := by decide +kernel
theorem dX4_brings_23 : decode cX4_brings 23 = .ok (.ldc 72, 2) := by decide +kernel
theorem dX4_brings_25 : decode cX4_brings 25 = .ok (.invokevirtual 99, 3) := by decide +kernel
theorem dX4_brings_28 : decode cX4_brings 28 = .ok (.ireturn, 1) := by decide +kernel
theorem dX4_brings_29 : decode cX4_brings 29 = .ok (.iload 4, 2) := by decide +kernel
theorem dX4_brings_31 : decode cX4_brings 31 = .ok (.ifCond .eq 10, 3) := by decide +kernel
theorem dX4_brings_34 : decode cX4_brings 34 = .ok (.aload_n 0, 1) := by decide +kernel
theorem dX4_brings_35 : decode cX4_brings 35 = .ok (.iload 4, 2) := by decide +kernel
theorem dX4_brings_37 : decode cX4_brings 37 = .ok (.invokevirtual 99, 3) := by decide +kernel
theorem dX4_brings_40 : decode cX4_brings 40 = .ok (.ireturn, 1) := by decide +kernel
theorem dX4_brings_41 : decode cX4_brings 41 = .ok (.aload_n 0, 1) := by decide +kernel
theorem dX4_brings_42 : decode cX4_brings 42 = .ok (.getfield 9, 3) := by decide +kernel
theorem dX4_brings_45 : decode cX4_brings 45 = .ok (.aload_n 0, 1) := by decide +kernel
theorem dX4_brings_46 : decode cX4_brings 46 = .ok (.getfield 16, 3) := by decide +kernel
theorem dX4_brings_49 : decode cX4_brings 49 = .ok (.invokestatic 73, 3) := by decide +kernel
theorem dX4_brings_52 : decode cX4_brings 52 = .ok (.aload_n 0, 1) := by decide +kernel
theorem dX4_brings_53 : decode cX4_brings 53 = .ok (.iconst 0, 1) := by decide +kernel
theorem dX4_brings_54 : decode cX4_brings 54 = .ok (.iload_n 1, 1) := by decide +kernel
theorem dX4_brings_55 : decode cX4_brings 55 = .ok (.iload_n 2, 1) := by decide +kernel
theorem dX4_brings_56 : decode cX4_brings 56 = .ok (.iload_n 3, 1) := by decide +kernel
theorem dX4_brings_57 : decode cX4_brings 57 = .ok (.invokevirtual 219, 3) := by decide +kernel
theorem dX4_brings_60 : decode cX4_brings 60 = .ok (.aload_n 0, 1) := by decide +kernel
theorem dX4_brings_61 : decode cX4_brings 61 = .ok (.invokevirtual 186, 3) := by decide +kernel
theorem dX4_brings_64 : decode cX4_brings 64 = .ok (.isub, 1) := by decide +kernel
theorem dX4_brings_65 : decode cX4_brings 65 = .ok (.ireturn, 1) := by decide +kernel
theorem dX4_bestWay_0 : decode cX4_bestWay 0 = .ok (.aload_n 0, 1) := by decide +kernel
theorem dX4_bestWay_1 : decode cX4_bestWay 1 = .ok (.getfield 9, 3) := by decide +kernel
theorem dX4_bestWay_4 : decode cX4_bestWay 4 = .ok (.aload_n 0, 1) := by decide +kernel
theorem dX4_bestWay_5 : decode cX4_bestWay 5 = .ok (.getfield 16, 3) := by decide +kernel
theorem dX4_bestWay_8 : decode cX4_bestWay 8 = .ok (.invokestatic 73, 3) := by decide +kernel
theorem dX4_bestWay_11 : decode cX4_bestWay 11 = .ok (.iconst (-1), 1) := by decide +kernel
theorem dX4_bestWay_12 : decode cX4_bestWay 12 = .ok (.istore 4, 2) := by decide +kernel
theorem dX4_bestWay_14 : decode cX4_bestWay 14 = .ok (.iconst 0, 1) := by decide +kernel
theorem dX4_bestWay_15 : decode cX4_bestWay 15 = .ok (.istore 5, 2) := by decide +kernel
theorem dX4_bestWay_17 : decode cX4_bestWay 17 = .ok (.iconst 0, 1) := by decide +kernel
theorem dX4_bestWay_18 : decode cX4_bestWay 18 = .ok (.istore 6, 2) := by decide +kernel
theorem dX4_bestWay_20 : decode cX4_bestWay 20 = .ok (.iload 6, 2) := by decide +kernel
theorem dX4_bestWay_22 : decode cX4_bestWay 22 = .ok (.iload_n 3, 1) := by decide +kernel
theorem dX4_bestWay_23 : decode cX4_bestWay 23 = .ok (.if_icmp .ge 63, 3) := by decide +kernel
theorem dX4_bestWay_26 : decode cX4_bestWay 26 = .ok (.iconst 0, 1) := by decide +kernel
theorem dX4_bestWay_27 : decode cX4_bestWay 27 = .ok (.istore 7, 2) := by decide +kernel
theorem dX4_bestWay_29 : decode cX4_bestWay 29 = .ok (.iload 7, 2) := by decide +kernel
theorem dX4_bestWay_31 : decode cX4_bestWay 31 = .ok (.bipush 7, 2) := by decide +kernel
theorem dX4_bestWay_33 : decode cX4_bestWay 33 = .ok (.if_icmp .ge 47, 3) := by decide +kernel
theorem dX4_bestWay_36 : decode cX4_bestWay 36 = .ok (.aload_n 0, 1) := by decide +kernel
theorem dX4_bestWay_37 : decode cX4_bestWay 37 = .ok (.iload 6, 2) := by decide +kernel
theorem dX4_bestWay_39 : decode cX4_bestWay 39 = .ok (.iload_n 1, 1) := by decide +kernel
theorem dX4_bestWay_40 : decode cX4_bestWay 40 = .ok (.iload 7, 2) := by decide +kernel
theorem dX4_bestWay_42 : decode cX4_bestWay 42 = .ok (.iload_n 2, 1) := by decide +kernel
theorem dX4_bestWay_43 : decode cX4_bestWay 43 = .ok (.invokevirtual 219, 3) := by decide +kernel
theorem dX4_bestWay_46 : decode cX4_bestWay 46 = .ok (.istore 8, 2) := by decide +kernel
theorem dX4_bestWay_48 : decode cX4_bestWay 48 = .ok (.iload 4, 2) := by decide +kernel
theorem dX4_bestWay_50 : decode cX4_bestWay 50 = .ok (.ifCond .lt 10, 3) := by decide +kernel
theorem dX4_bestWay_53 : decode cX4_bestWay 53 = .ok (.iload 8, 2) := by decide +kernel
theorem dX4_bestWay_55 : decode cX4_bestWay 55 = .ok (.iload 5, 2) := by decide +kernel
theorem dX4_bestWay_57 : decode cX4_bestWay 57 = .ok (.if_icmp .le 17, 3) := by decide +kernel
theorem dX4_bestWay_60 : decode cX4_bestWay 60 = .ok (.bipush 10, 2) := by decide +kernel
theorem dX4_bestWay_62 : decode cX4_bestWay 62 = .ok (.iload 6, 2) := by decide +kernel
theorem dX4_bestWay_64 : decode cX4_bestWay 64 = .ok (.imul, 1) := by decide +kernel
theorem dX4_bestWay_65 : decode cX4_bestWay 65 = .ok (.iload 7, 2) := by decide +kernel
theorem dX4_bestWay_67 : decode cX4_bestWay 67 = .ok (.iadd, 1) := by decide +kernel
theorem dX4_bestWay_68 : decode cX4_bestWay 68 = .ok (.istore 4, 2) := by decide +kernel
theorem dX4_bestWay_70 : decode cX4_bestWay 70 = .ok (.iload 8, 2) := by decide +kernel
theorem dX4_bestWay_72 : decode cX4_bestWay 72 = .ok (.istore 5, 2) := by decide +kernel
theorem dX4_bestWay_74 : decode cX4_bestWay 74 = .ok (.iinc 7 1, 3) := by decide +kernel
theorem dX4_bestWay_77 : decode cX4_bestWay 77 = .ok (.goto (-48), 3) := by decide +kernel
theorem dX4_bestWay_80 : decode cX4_bestWay 80 = .ok (.iinc 6 1, 3) := by decide +kernel
theorem dX4_bestWay_83 : decode cX4_bestWay 83 = .ok (.goto (-63), 3) := by decide +kernel
theorem dX4_bestWay_86 : decode cX4_bestWay 86 = .ok (.iload 4, 2) := by decide +kernel
theorem dX4_bestWay_88 : decode cX4_bestWay 88 = .ok (.ireturn, 1) := by decide +kernel
theorem dX4_best_0 : decode cX4_best 0 = .ok (.aload_n 0, 1) := by decide +kernel
theorem dX4_best_1 : decode cX4_best 1 = .ok (.iload_n 1, 1) := by decide +kernel
theorem dX4_best_2 : decode cX4_best 2 = .ok (.iload_n 2, 1) := by decide +kernel
theorem dX4_best_3 : decode cX4_best 3 = .ok (.invokevirtual 216, 3) := by decide +kernel
theorem dX4_best_6 : decode cX4_best 6 = .ok (.istore_n 3, 1) := by decide +kernel
theorem dX4_best_7 : decode cX4_best 7 = .ok (.iload_n 3, 1) := by decide +kernel
theorem dX4_best_8 : decode cX4_best 8 = .ok (.ifCond .eq 11, 3) := by decide +kernel
theorem dX4_best_11 : decode cX4_best 11 = .ok (.aload_n 0, 1) := by decide +kernel
theorem dX4_best_12 : decode cX4_best 12 = .ok (.iload_n 3, 1) := by decide +kernel
theorem dX4_best_13 : decode cX4_best 13 = .ok (.invokevirtual 99, 3) := by decide +kernel
theorem dX4_best_16 : decode cX4_best 16 = .ok (.goto 10, 3) := by decide +kernel
theorem dX4_best_19 : decode cX4_best 19 = .ok (.aload_n 0, 1) := by decide +kernel
theorem dX4_best_20 : decode cX4_best 20 = .ok (.iload_n 1, 1) := by decide +kernel
theorem dX4_best_21 : decode cX4_best 21 = .ok (.iload_n 2, 1) := by decide +kernel
theorem dX4_best_22 : decode cX4_best 22 = .ok (.iconst 1, 1) := by decide +kernel
theorem dX4_best_23 : decode cX4_best 23 = .ok (.invokevirtual 223, 3) := by decide +kernel
theorem dX4_best_26 : decode cX4_best 26 = .ok (.ireturn, 1) := by decide +kernel
theorem dX4_wait_0 : decode cX4_wait 0 = .ok (.aload_n 0, 1) := by decide +kernel
theorem dX4_wait_1 : decode cX4_wait 1 = .ok (.iload_n 1, 1) := by decide +kernel
theorem dX4_wait_2 : decode cX4_wait 2 = .ok (.iload_n 2, 1) := by decide +kernel
theorem dX4_wait_3 : decode cX4_wait 3 = .ok (.invokevirtual 216, 3) := by decide +kernel
theorem dX4_wait_6 : decode cX4_wait 6 = .ok (.istore_n 3, 1) := by decide +kernel
theorem dX4_wait_7 : decode cX4_wait 7 = .ok (.iload_n 3, 1) := by decide +kernel
theorem dX4_wait_8 : decode cX4_wait 8 = .ok (.ifCond .eq 11, 3) := by decide +kernel
theorem dX4_wait_11 : decode cX4_wait 11 = .ok (.aload_n 0, 1) := by decide +kernel
theorem dX4_wait_12 : decode cX4_wait 12 = .ok (.iload_n 3, 1) := by decide +kernel
theorem dX4_wait_13 : decode cX4_wait 13 = .ok (.invokevirtual 99, 3) := by decide +kernel
theorem dX4_wait_16 : decode cX4_wait 16 = .ok (.goto 11, 3) := by decide +kernel
theorem dX4_wait_19 : decode cX4_wait 19 = .ok (.aload_n 0, 1) := by decide +kernel
theorem dX4_wait_20 : decode cX4_wait 20 = .ok (.iload_n 1, 1) := by decide +kernel
theorem dX4_wait_21 : decode cX4_wait 21 = .ok (.iload_n 2, 1) := by decide +kernel
theorem dX4_wait_22 : decode cX4_wait 22 = .ok (.bipush 12, 2) := by decide +kernel
theorem dX4_wait_24 : decode cX4_wait 24 = .ok (.invokevirtual 223, 3) := by decide +kernel
theorem dX4_wait_27 : decode cX4_wait 27 = .ok (.ireturn, 1) := by decide +kernel
theorem dX4_leastInHand_0 : decode cX4_leastInHand 0 = .ok (.iconst 0, 1) := by decide +kernel
theorem dX4_leastInHand_1 : decode cX4_leastInHand 1 = .ok (.istore_n 1, 1) := by decide +kernel
theorem dX4_leastInHand_2 : decode cX4_leastInHand 2 = .ok (.iload_n 1, 1) := by decide +kernel
theorem dX4_leastInHand_3 : decode cX4_leastInHand 3 = .ok (.aload_n 0, 1) := by decide +kernel
theorem dX4_leastInHand_4 : decode cX4_leastInHand 4 = .ok (.getfield 9, 3) := by decide +kernel
theorem dX4_leastInHand_7 : decode cX4_leastInHand 7 = .ok (.iconst 4, 1) := by decide +kernel
theorem dX4_leastInHand_8 : decode cX4_leastInHand 8 = .ok (.iaload, 1) := by decide +kernel
theorem dX4_leastInHand_9 : decode cX4_leastInHand 9 = .ok (.if_icmp .ge 17, 3) := by decide +kernel
theorem dX4_leastInHand_12 : decode cX4_leastInHand 12 = .ok (.aload_n 0, 1) := by decide +kernel
theorem dX4_leastInHand_13 : decode cX4_leastInHand 13 = .ok (.iload_n 1, 1) := by decide +kernel
theorem dX4_leastInHand_14 : decode cX4_leastInHand 14 = .ok (.invokevirtual 183, 3) := by decide +kernel
theorem dX4_leastInHand_17 : decode cX4_leastInHand 17 = .ok (.ifCond .ne 9, 3) := by decide +kernel
theorem dX4_leastInHand_20 : decode cX4_leastInHand 20 = .ok (.iinc 1 1, 3) := by decide +kernel
theorem dX4_leastInHand_23 : decode cX4_leastInHand 23 = .ok (.goto (-21), 3) := by decide +kernel
theorem dX4_leastInHand_26 : decode cX4_leastInHand 26 = .ok (.iload_n 1, 1) := by decide +kernel
theorem dX4_leastInHand_27 : decode cX4_leastInHand 27 = .ok (.ireturn, 1) := by decide +kernel
theorem dX4_ways_0 : decode cX4_ways 0 = .ok (.iload_n 0, 1) := by decide +kernel
theorem dX4_ways_1 : decode cX4_ways 1 = .ok (.ifCond .ne 7, 3) := by decide +kernel
theorem dX4_ways_4 : decode cX4_ways 4 = .ok (.iconst 1, 1) := by decide +kernel
theorem dX4_ways_5 : decode cX4_ways 5 = .ok (.goto 26, 3) := by decide +kernel
theorem dX4_ways_8 : decode cX4_ways 8 = .ok (.iload_n 0, 1) := by decide +kernel
theorem dX4_ways_9 : decode cX4_ways 9 = .ok (.iconst 1, 1) := by decide +kernel
theorem dX4_ways_10 : decode cX4_ways 10 = .ok (.if_icmp .ne 8, 3) := by decide +kernel
theorem dX4_ways_13 : decode cX4_ways 13 = .ok (.bipush 7, 2) := by decide +kernel
theorem dX4_ways_15 : decode cX4_ways 15 = .ok (.goto 16, 3) := by decide +kernel
theorem dX4_ways_18 : decode cX4_ways 18 = .ok (.iload_n 0, 1) := by decide +kernel
theorem dX4_ways_19 : decode cX4_ways 19 = .ok (.iconst 2, 1) := by decide +kernel
theorem dX4_ways_20 : decode cX4_ways 20 = .ok (.if_icmp .ne 8, 3) := by decide +kernel
theorem dX4_ways_23 : decode cX4_ways 23 = .ok (.bipush 49, 2) := by decide +kernel
theorem dX4_ways_25 : decode cX4_ways 25 = .ok (.goto 6, 3) := by decide +kernel
theorem dX4_ways_28 : decode cX4_ways 28 = .ok (.sipush 343, 3) := by decide +kernel
theorem dX4_ways_31 : decode cX4_ways 31 = .ok (.ireturn, 1) := by decide +kernel
theorem dX4_columnOf_0 : decode cX4_columnOf 0 = .ok (.iload_n 0, 1) := by decide +kernel
theorem dX4_columnOf_1 : decode cX4_columnOf 1 = .ok (.iload_n 1, 1) := by decide +kernel
theorem dX4_columnOf_2 : decode cX4_columnOf 2 = .ok (.iconst 1, 1) := by decide +kernel
theorem dX4_columnOf_3 : decode cX4_columnOf 3 = .ok (.isub, 1) := by decide +kernel
theorem dX4_columnOf_4 : decode cX4_columnOf 4 = .ok (.iload_n 2, 1) := by decide +kernel
theorem dX4_columnOf_5 : decode cX4_columnOf 5 = .ok (.isub, 1) := by decide +kernel
theorem dX4_columnOf_6 : decode cX4_columnOf 6 = .ok (.invokestatic 227, 3) := by decide +kernel
theorem dX4_columnOf_9 : decode cX4_columnOf 9 = .ok (.idiv, 1) := by decide +kernel
theorem dX4_columnOf_10 : decode cX4_columnOf 10 = .ok (.bipush 7, 2) := by decide +kernel
theorem dX4_columnOf_12 : decode cX4_columnOf 12 = .ok (.irem, 1) := by decide +kernel
theorem dX4_columnOf_13 : decode cX4_columnOf 13 = .ok (.ireturn, 1) := by decide +kernel
theorem dX4_dropsBy_0 : decode cX4_dropsBy 0 = .ok (.iconst 0, 1) := by decide +kernel
theorem dX4_dropsBy_1 : decode cX4_dropsBy 1 = .ok (.istore_n 3, 1) := by decide +kernel
theorem dX4_dropsBy_2 : decode cX4_dropsBy 2 = .ok (.iload_n 3, 1) := by decide +kernel
theorem dX4_dropsBy_3 : decode cX4_dropsBy 3 = .ok (.iload_n 2, 1) := by decide +kernel
theorem dX4_dropsBy_4 : decode cX4_dropsBy 4 = .ok (.if_icmp .ge 23, 3) := by decide +kernel
theorem dX4_dropsBy_7 : decode cX4_dropsBy 7 = .ok (.aload_n 0, 1) := by decide +kernel
theorem dX4_dropsBy_8 : decode cX4_dropsBy 8 = .ok (.aload_n 0, 1) := by decide +kernel
theorem dX4_dropsBy_9 : decode cX4_dropsBy 9 = .ok (.invokevirtual 230, 3) := by decide +kernel
theorem dX4_dropsBy_12 : decode cX4_dropsBy 12 = .ok (.iload_n 1, 1) := by decide +kernel
theorem dX4_dropsBy_13 : decode cX4_dropsBy 13 = .ok (.iload_n 2, 1) := by decide +kernel
theorem dX4_dropsBy_14 : decode cX4_dropsBy 14 = .ok (.iload_n 3, 1) := by decide +kernel
theorem dX4_dropsBy_15 : decode cX4_dropsBy 15 = .ok (.invokestatic 233, 3) := by decide +kernel
theorem dX4_dropsBy_18 : decode cX4_dropsBy 18 = .ok (.invokevirtual 190, 3) := by decide +kernel
theorem dX4_dropsBy_21 : decode cX4_dropsBy 21 = .ok (.iinc 3 1, 3) := by decide +kernel
theorem dX4_dropsBy_24 : decode cX4_dropsBy 24 = .ok (.goto (-22), 3) := by decide +kernel
theorem dX4_dropsBy_27 : decode cX4_dropsBy 27 = .ok (.return_, 1) := by decide +kernel
theorem dX4_refusesThree_0 : decode cX4_refusesThree 0 = .ok (.iload_n 1, 1) := by decide +kernel
theorem dX4_refusesThree_1 : decode cX4_refusesThree 1 = .ok (.iconst 0, 1) := by decide +kernel
theorem dX4_refusesThree_2 : decode cX4_refusesThree 2 = .ok (.bipush 20, 2) := by decide +kernel
theorem dX4_refusesThree_4 : decode cX4_refusesThree 4 = .ok (.invokestatic 77, 3) := by decide +kernel
theorem dX4_refusesThree_7 : decode cX4_refusesThree 7 = .ok (.ifCond .ne 6, 3) := by decide +kernel
theorem dX4_refusesThree_10 : decode cX4_refusesThree 10 = .ok (.ldc 72, 2) := by decide +kernel
theorem dX4_refusesThree_12 : decode cX4_refusesThree 12 = .ok (.ireturn, 1) := by decide +kernel
theorem dX4_refusesThree_13 : decode cX4_refusesThree 13 = .ok (.aload_n 0, 1) := by decide +kernel
theorem dX4_refusesThree_14 : decode cX4_refusesThree 14 = .ok (.bipush 100, 2) := by decide +kernel
theorem dX4_refusesThree_16 : decode cX4_refusesThree 16 = .ok (.invokevirtual 177, 3) := by decide +kernel
theorem dX4_refusesThree_19 : decode cX4_refusesThree 19 = .ok (.invokestatic 236, 3) := by decide +kernel
theorem dX4_refusesThree_22 : decode cX4_refusesThree 22 = .ok (.iconst 3, 1) := by decide +kernel
theorem dX4_refusesThree_23 : decode cX4_refusesThree 23 = .ok (.if_icmp .lt 15, 3) := by decide +kernel
theorem dX4_refusesThree_26 : decode cX4_refusesThree 26 = .ok (.aload_n 0, 1) := by decide +kernel
theorem dX4_refusesThree_27 : decode cX4_refusesThree 27 = .ok (.getfield 9, 3) := by decide +kernel
theorem dX4_refusesThree_30 : decode cX4_refusesThree 30 = .ok (.iconst 0, 1) := by decide +kernel
theorem dX4_refusesThree_31 : decode cX4_refusesThree 31 = .ok (.iaload, 1) := by decide +kernel
theorem dX4_refusesThree_32 : decode cX4_refusesThree 32 = .ok (.sipush 9900, 3) := by decide +kernel
theorem dX4_refusesThree_35 : decode cX4_refusesThree 35 = .ok (.if_icmp .le 6, 3) := by decide +kernel
theorem dX4_refusesThree_38 : decode cX4_refusesThree 38 = .ok (.ldc 137, 2) := by decide +kernel
theorem dX4_refusesThree_40 : decode cX4_refusesThree 40 = .ok (.ireturn, 1) := by decide +kernel
theorem dX4_refusesThree_41 : decode cX4_refusesThree 41 = .ok (.aload_n 0, 1) := by decide +kernel
theorem dX4_refusesThree_42 : decode cX4_refusesThree 42 = .ok (.getfield 9, 3) := by decide +kernel
theorem dX4_refusesThree_45 : decode cX4_refusesThree 45 = .ok (.aload_n 0, 1) := by decide +kernel
theorem dX4_refusesThree_46 : decode cX4_refusesThree 46 = .ok (.getfield 16, 3) := by decide +kernel
theorem dX4_refusesThree_49 : decode cX4_refusesThree 49 = .ok (.invokestatic 73, 3) := by decide +kernel
theorem dX4_refusesThree_52 : decode cX4_refusesThree 52 = .ok (.aload_n 0, 1) := by decide +kernel
theorem dX4_refusesThree_53 : decode cX4_refusesThree 53 = .ok (.iconst (-1), 1) := by decide +kernel
theorem dX4_refusesThree_54 : decode cX4_refusesThree 54 = .ok (.putfield 239, 3) := by decide +kernel
theorem dX4_refusesThree_57 : decode cX4_refusesThree 57 = .ok (.iconst 0, 1) := by decide +kernel
theorem dX4_refusesThree_58 : decode cX4_refusesThree 58 = .ok (.istore_n 2, 1) := by decide +kernel
theorem dX4_refusesThree_59 : decode cX4_refusesThree 59 = .ok (.iload_n 2, 1) := by decide +kernel
theorem dX4_refusesThree_60 : decode cX4_refusesThree 60 = .ok (.iconst 3, 1) := by decide +kernel
theorem dX4_refusesThree_61 : decode cX4_refusesThree 61 = .ok (.invokestatic 227, 3) := by decide +kernel
theorem dX4_refusesThree_64 : decode cX4_refusesThree 64 = .ok (.if_icmp .ge 66, 3) := by decide +kernel
theorem dX4_refusesThree_67 : decode cX4_refusesThree 67 = .ok (.aload_n 0, 1) := by decide +kernel
theorem dX4_refusesThree_68 : decode cX4_refusesThree 68 = .ok (.iload_n 2, 1) := by decide +kernel
theorem dX4_refusesThree_69 : decode cX4_refusesThree 69 = .ok (.iconst 3, 1) := by decide +kernel
theorem dX4_refusesThree_70 : decode cX4_refusesThree 70 = .ok (.invokevirtual 242, 3) := by decide +kernel
theorem dX4_refusesThree_73 : decode cX4_refusesThree 73 = .ok (.aload_n 0, 1) := by decide +kernel
theorem dX4_refusesThree_74 : decode cX4_refusesThree 74 = .ok (.iload_n 1, 1) := by decide +kernel
theorem dX4_refusesThree_75 : decode cX4_refusesThree 75 = .ok (.invokevirtual 196, 3) := by decide +kernel
theorem dX4_refusesThree_78 : decode cX4_refusesThree 78 = .ok (.istore_n 3, 1) := by decide +kernel
theorem dX4_refusesThree_79 : decode cX4_refusesThree 79 = .ok (.aload_n 0, 1) := by decide +kernel
theorem dX4_refusesThree_80 : decode cX4_refusesThree 80 = .ok (.iload_n 3, 1) := by decide +kernel
theorem dX4_refusesThree_81 : decode cX4_refusesThree 81 = .ok (.ifCond .ge 7, 3) := by decide +kernel
theorem dX4_refusesThree_84 : decode cX4_refusesThree 84 = .ok (.iload_n 3, 1) := by decide +kernel
theorem dX4_refusesThree_85 : decode cX4_refusesThree 85 = .ok (.goto 7, 3) := by decide +kernel
theorem dX4_refusesThree_88 : decode cX4_refusesThree 88 = .ok (.aload_n 0, 1) := by decide +kernel
theorem dX4_refusesThree_89 : decode cX4_refusesThree 89 = .ok (.invokevirtual 186, 3) := by decide +kernel
theorem dX4_refusesThree_92 : decode cX4_refusesThree 92 = .ok (.invokevirtual 210, 3) := by decide +kernel
theorem dX4_refusesThree_95 : decode cX4_refusesThree 95 = .ok (.istore 4, 2) := by decide +kernel
theorem dX4_refusesThree_97 : decode cX4_refusesThree 97 = .ok (.aload_n 0, 1) := by decide +kernel
theorem dX4_refusesThree_98 : decode cX4_refusesThree 98 = .ok (.getfield 239, 3) := by decide +kernel
theorem dX4_refusesThree_101 : decode cX4_refusesThree 101 = .ok (.ifCond .lt 12, 3) := by decide +kernel
theorem dX4_refusesThree_104 : decode cX4_refusesThree 104 = .ok (.iload 4, 2) := by decide +kernel
theorem dX4_refusesThree_106 : decode cX4_refusesThree 106 = .ok (.aload_n 0, 1) := by decide +kernel
theorem dX4_refusesThree_107 : decode cX4_refusesThree 107 = .ok (.getfield 245, 3) := by decide +kernel
theorem dX4_refusesThree_110 : decode cX4_refusesThree 110 = .ok (.if_icmp .le 14, 3) := by decide +kernel
theorem dX4_refusesThree_113 : decode cX4_refusesThree 113 = .ok (.aload_n 0, 1) := by decide +kernel
theorem dX4_refusesThree_114 : decode cX4_refusesThree 114 = .ok (.iload_n 2, 1) := by decide +kernel
theorem dX4_refusesThree_115 : decode cX4_refusesThree 115 = .ok (.putfield 239, 3) := by decide +kernel
theorem dX4_refusesThree_118 : decode cX4_refusesThree 118 = .ok (.aload_n 0, 1) := by decide +kernel
theorem dX4_refusesThree_119 : decode cX4_refusesThree 119 = .ok (.iload 4, 2) := by decide +kernel
theorem dX4_refusesThree_121 : decode cX4_refusesThree 121 = .ok (.putfield 245, 3) := by decide +kernel
theorem dX4_refusesThree_124 : decode cX4_refusesThree 124 = .ok (.iinc 2 1, 3) := by decide +kernel
theorem dX4_refusesThree_127 : decode cX4_refusesThree 127 = .ok (.goto (-68), 3) := by decide +kernel
theorem dX4_refusesThree_130 : decode cX4_refusesThree 130 = .ok (.iconst 0, 1) := by decide +kernel
theorem dX4_refusesThree_131 : decode cX4_refusesThree 131 = .ok (.ireturn, 1) := by decide +kernel
theorem dX4_three_0 : decode cX4_three 0 = .ok (.aload_n 0, 1) := by decide +kernel
theorem dX4_three_1 : decode cX4_three 1 = .ok (.iload_n 1, 1) := by decide +kernel
theorem dX4_three_2 : decode cX4_three 2 = .ok (.invokevirtual 248, 3) := by decide +kernel
theorem dX4_three_5 : decode cX4_three 5 = .ok (.istore_n 2, 1) := by decide +kernel
theorem dX4_three_6 : decode cX4_three 6 = .ok (.iload_n 2, 1) := by decide +kernel
theorem dX4_three_7 : decode cX4_three 7 = .ok (.ifCond .eq 11, 3) := by decide +kernel
theorem dX4_three_10 : decode cX4_three 10 = .ok (.aload_n 0, 1) := by decide +kernel
theorem dX4_three_11 : decode cX4_three 11 = .ok (.iload_n 2, 1) := by decide +kernel
theorem dX4_three_12 : decode cX4_three 12 = .ok (.invokevirtual 99, 3) := by decide +kernel
theorem dX4_three_15 : decode cX4_three 15 = .ok (.goto 38, 3) := by decide +kernel
theorem dX4_three_18 : decode cX4_three 18 = .ok (.bipush 100, 2) := by decide +kernel
theorem dX4_three_20 : decode cX4_three 20 = .ok (.aload_n 0, 1) := by decide +kernel
theorem dX4_three_21 : decode cX4_three 21 = .ok (.getfield 239, 3) := by decide +kernel
theorem dX4_three_24 : decode cX4_three 24 = .ok (.iconst 3, 1) := by decide +kernel
theorem dX4_three_25 : decode cX4_three 25 = .ok (.iconst 0, 1) := by decide +kernel
theorem dX4_three_26 : decode cX4_three 26 = .ok (.invokestatic 233, 3) := by decide +kernel
theorem dX4_three_29 : decode cX4_three 29 = .ok (.imul, 1) := by decide +kernel
theorem dX4_three_30 : decode cX4_three 30 = .ok (.bipush 10, 2) := by decide +kernel
theorem dX4_three_32 : decode cX4_three 32 = .ok (.aload_n 0, 1) := by decide +kernel
theorem dX4_three_33 : decode cX4_three 33 = .ok (.getfield 239, 3) := by decide +kernel
theorem dX4_three_36 : decode cX4_three 36 = .ok (.iconst 3, 1) := by decide +kernel
theorem dX4_three_37 : decode cX4_three 37 = .ok (.iconst 1, 1) := by decide +kernel
theorem dX4_three_38 : decode cX4_three 38 = .ok (.invokestatic 233, 3) := by decide +kernel
theorem dX4_three_41 : decode cX4_three 41 = .ok (.imul, 1) := by decide +kernel
theorem dX4_three_42 : decode cX4_three 42 = .ok (.iadd, 1) := by decide +kernel
theorem dX4_three_43 : decode cX4_three 43 = .ok (.aload_n 0, 1) := by decide +kernel
theorem dX4_three_44 : decode cX4_three 44 = .ok (.getfield 239, 3) := by decide +kernel
theorem dX4_three_47 : decode cX4_three 47 = .ok (.iconst 3, 1) := by decide +kernel
theorem dX4_three_48 : decode cX4_three 48 = .ok (.iconst 2, 1) := by decide +kernel
theorem dX4_three_49 : decode cX4_three 49 = .ok (.invokestatic 233, 3) := by decide +kernel
theorem dX4_three_52 : decode cX4_three 52 = .ok (.iadd, 1) := by decide +kernel
theorem dX4_three_53 : decode cX4_three 53 = .ok (.ireturn, 1) := by decide +kernel
theorem dX4_threeBring_0 : decode cX4_threeBring 0 = .ok (.aload_n 0, 1) := by decide +kernel
theorem dX4_threeBring_1 : decode cX4_threeBring 1 = .ok (.iload_n 1, 1) := by decide +kernel
theorem dX4_threeBring_2 : decode cX4_threeBring 2 = .ok (.invokevirtual 248, 3) := by decide +kernel
theorem dX4_threeBring_5 : decode cX4_threeBring 5 = .ok (.istore_n 2, 1) := by decide +kernel
theorem dX4_threeBring_6 : decode cX4_threeBring 6 = .ok (.iload_n 2, 1) := by decide +kernel
theorem dX4_threeBring_7 : decode cX4_threeBring 7 = .ok (.ifCond .eq 11, 3) := by decide +kernel
theorem dX4_threeBring_10 : decode cX4_threeBring 10 = .ok (.aload_n 0, 1) := by decide +kernel
theorem dX4_threeBring_11 : decode cX4_threeBring 11 = .ok (.iload_n 2, 1) := by decide +kernel
theorem dX4_threeBring_12 : decode cX4_threeBring 12 = .ok (.invokevirtual 99, 3) := by decide +kernel
theorem dX4_threeBring_15 : decode cX4_threeBring 15 = .ok (.goto 12, 3) := by decide +kernel
theorem dX4_threeBring_18 : decode cX4_threeBring 18 = .ok (.aload_n 0, 1) := by decide +kernel
theorem dX4_threeBring_19 : decode cX4_threeBring 19 = .ok (.getfield 245, 3) := by decide +kernel
theorem dX4_threeBring_22 : decode cX4_threeBring 22 = .ok (.aload_n 0, 1) := by decide +kernel
theorem dX4_threeBring_23 : decode cX4_threeBring 23 = .ok (.invokevirtual 186, 3) := by decide +kernel
theorem dX4_threeBring_26 : decode cX4_threeBring 26 = .ok (.isub, 1) := by decide +kernel
theorem dX4_threeBring_27 : decode cX4_threeBring 27 = .ok (.ireturn, 1) := by decide +kernel
theorem dX4_findSoonest_0 : decode cX4_findSoonest 0 = .ok (.aload_n 0, 1) := by decide +kernel
theorem dX4_findSoonest_1 : decode cX4_findSoonest 1 = .ok (.getfield 9, 3) := by decide +kernel
theorem dX4_findSoonest_4 : decode cX4_findSoonest 4 = .ok (.aload_n 0, 1) := by decide +kernel
theorem dX4_findSoonest_5 : decode cX4_findSoonest 5 = .ok (.getfield 16, 3) := by decide +kernel
theorem dX4_findSoonest_8 : decode cX4_findSoonest 8 = .ok (.invokestatic 73, 3) := by decide +kernel
theorem dX4_findSoonest_11 : decode cX4_findSoonest 11 = .ok (.iconst 3, 1) := by decide +kernel
theorem dX4_findSoonest_12 : decode cX4_findSoonest 12 = .ok (.aload_n 0, 1) := by decide +kernel
theorem dX4_findSoonest_13 : decode cX4_findSoonest 13 = .ok (.bipush 100, 2) := by decide +kernel
theorem dX4_findSoonest_15 : decode cX4_findSoonest 15 = .ok (.invokevirtual 177, 3) := by decide +kernel
theorem dX4_findSoonest_18 : decode cX4_findSoonest 18 = .ok (.invokestatic 236, 3) := by decide +kernel
theorem dX4_findSoonest_21 : decode cX4_findSoonest 21 = .ok (.invokestatic 251, 3) := by decide +kernel
theorem dX4_findSoonest_24 : decode cX4_findSoonest 24 = .ok (.istore_n 2, 1) := by decide +kernel
theorem dX4_findSoonest_25 : decode cX4_findSoonest 25 = .ok (.iconst 0, 1) := by decide +kernel
theorem dX4_findSoonest_26 : decode cX4_findSoonest 26 = .ok (.istore_n 3, 1) := by decide +kernel
theorem dX4_findSoonest_27 : decode cX4_findSoonest 27 = .ok (.iload_n 3, 1) := by decide +kernel
theorem dX4_findSoonest_28 : decode cX4_findSoonest 28 = .ok (.iload_n 2, 1) := by decide +kernel
theorem dX4_findSoonest_29 : decode cX4_findSoonest 29 = .ok (.if_icmp .gt 60, 3) := by decide +kernel
theorem dX4_findSoonest_32 : decode cX4_findSoonest 32 = .ok (.iconst 0, 1) := by decide +kernel
theorem dX4_findSoonest_33 : decode cX4_findSoonest 33 = .ok (.istore 4, 2) := by decide +kernel
theorem dX4_findSoonest_35 : decode cX4_findSoonest 35 = .ok (.iload 4, 2) := by decide +kernel
theorem dX4_findSoonest_37 : decode cX4_findSoonest 37 = .ok (.iload_n 3, 1) := by decide +kernel
theorem dX4_findSoonest_38 : decode cX4_findSoonest 38 = .ok (.invokestatic 227, 3) := by decide +kernel
theorem dX4_findSoonest_41 : decode cX4_findSoonest 41 = .ok (.if_icmp .ge 42, 3) := by decide +kernel
theorem dX4_findSoonest_44 : decode cX4_findSoonest 44 = .ok (.aload_n 0, 1) := by decide +kernel
theorem dX4_findSoonest_45 : decode cX4_findSoonest 45 = .ok (.iload 4, 2) := by decide +kernel
theorem dX4_findSoonest_47 : decode cX4_findSoonest 47 = .ok (.iload_n 3, 1) := by decide +kernel
theorem dX4_findSoonest_48 : decode cX4_findSoonest 48 = .ok (.invokevirtual 242, 3) := by decide +kernel
theorem dX4_findSoonest_51 : decode cX4_findSoonest 51 = .ok (.aload_n 0, 1) := by decide +kernel
theorem dX4_findSoonest_52 : decode cX4_findSoonest 52 = .ok (.aload_n 0, 1) := by decide +kernel
theorem dX4_findSoonest_53 : decode cX4_findSoonest 53 = .ok (.getfield 9, 3) := by decide +kernel
theorem dX4_findSoonest_56 : decode cX4_findSoonest 56 = .ok (.bipush 41, 2) := by decide +kernel
theorem dX4_findSoonest_58 : decode cX4_findSoonest 58 = .ok (.iload_n 1, 1) := by decide +kernel
theorem dX4_findSoonest_59 : decode cX4_findSoonest 59 = .ok (.iadd, 1) := by decide +kernel
theorem dX4_findSoonest_60 : decode cX4_findSoonest 60 = .ok (.iaload, 1) := by decide +kernel
theorem dX4_findSoonest_61 : decode cX4_findSoonest 61 = .ok (.invokevirtual 210, 3) := by decide +kernel
theorem dX4_findSoonest_64 : decode cX4_findSoonest 64 = .ok (.bipush 101, 2) := by decide +kernel
theorem dX4_findSoonest_66 : decode cX4_findSoonest 66 = .ok (.if_icmp .ne 11, 3) := by decide +kernel
theorem dX4_findSoonest_69 : decode cX4_findSoonest 69 = .ok (.aload_n 0, 1) := by decide +kernel
theorem dX4_findSoonest_70 : decode cX4_findSoonest 70 = .ok (.iload 4, 2) := by decide +kernel
theorem dX4_findSoonest_72 : decode cX4_findSoonest 72 = .ok (.putfield 254, 3) := by decide +kernel
theorem dX4_findSoonest_75 : decode cX4_findSoonest 75 = .ok (.iload_n 3, 1) := by decide +kernel
theorem dX4_findSoonest_76 : decode cX4_findSoonest 76 = .ok (.ireturn, 1) := by decide +kernel
theorem dX4_findSoonest_77 : decode cX4_findSoonest 77 = .ok (.iinc 4 1, 3) := by decide +kernel
theorem dX4_findSoonest_80 : decode cX4_findSoonest 80 = .ok (.goto (-45), 3) := by decide +kernel
theorem dX4_findSoonest_83 : decode cX4_findSoonest 83 = .ok (.iinc 3 1, 3) := by decide +kernel
theorem dX4_findSoonest_86 : decode cX4_findSoonest 86 = .ok (.goto (-59), 3) := by decide +kernel
theorem dX4_findSoonest_89 : decode cX4_findSoonest 89 = .ok (.iconst (-1), 1) := by decide +kernel
theorem dX4_findSoonest_90 : decode cX4_findSoonest 90 = .ok (.ireturn, 1) := by decide +kernel
theorem dX4_refusesSoon_0 : decode cX4_refusesSoon 0 = .ok (.aload_n 0, 1) := by decide +kernel
theorem dX4_refusesSoon_1 : decode cX4_refusesSoon 1 = .ok (.iload_n 1, 1) := by decide +kernel
theorem dX4_refusesSoon_2 : decode cX4_refusesSoon 2 = .ok (.invokevirtual 116, 3) := by decide +kernel
theorem dX4_refusesSoon_5 : decode cX4_refusesSoon 5 = .ok (.ifCond .ne 8, 3) := by decide +kernel
theorem dX4_refusesSoon_8 : decode cX4_refusesSoon 8 = .ok (.ldc 72, 2) := by decide +kernel
theorem dX4_refusesSoon_10 : decode cX4_refusesSoon 10 = .ok (.goto 21, 3) := by decide +kernel
theorem dX4_refusesSoon_13 : decode cX4_refusesSoon 13 = .ok (.aload_n 0, 1) := by decide +kernel
theorem dX4_refusesSoon_14 : decode cX4_refusesSoon 14 = .ok (.getfield 9, 3) := by decide +kernel
theorem dX4_refusesSoon_17 : decode cX4_refusesSoon 17 = .ok (.iconst 0, 1) := by decide +kernel
theorem dX4_refusesSoon_18 : decode cX4_refusesSoon 18 = .ok (.iaload, 1) := by decide +kernel
theorem dX4_refusesSoon_19 : decode cX4_refusesSoon 19 = .ok (.sipush 9900, 3) := by decide +kernel
theorem dX4_refusesSoon_22 : decode cX4_refusesSoon 22 = .ok (.if_icmp .le 8, 3) := by decide +kernel
theorem dX4_refusesSoon_25 : decode cX4_refusesSoon 25 = .ok (.ldc 137, 2) := by decide +kernel
theorem dX4_refusesSoon_27 : decode cX4_refusesSoon 27 = .ok (.goto 4, 3) := by decide +kernel
theorem dX4_refusesSoon_30 : decode cX4_refusesSoon 30 = .ok (.iconst 0, 1) := by decide +kernel
theorem dX4_refusesSoon_31 : decode cX4_refusesSoon 31 = .ok (.ireturn, 1) := by decide +kernel
theorem dX4_soonest_0 : decode cX4_soonest 0 = .ok (.aload_n 0, 1) := by decide +kernel
theorem dX4_soonest_1 : decode cX4_soonest 1 = .ok (.iload_n 1, 1) := by decide +kernel
theorem dX4_soonest_2 : decode cX4_soonest 2 = .ok (.invokevirtual 257, 3) := by decide +kernel
theorem dX4_soonest_5 : decode cX4_soonest 5 = .ok (.istore_n 2, 1) := by decide +kernel
theorem dX4_soonest_6 : decode cX4_soonest 6 = .ok (.iload_n 2, 1) := by decide +kernel
theorem dX4_soonest_7 : decode cX4_soonest 7 = .ok (.ifCond .eq 9, 3) := by decide +kernel
theorem dX4_soonest_10 : decode cX4_soonest 10 = .ok (.aload_n 0, 1) := by decide +kernel
theorem dX4_soonest_11 : decode cX4_soonest 11 = .ok (.iload_n 2, 1) := by decide +kernel
theorem dX4_soonest_12 : decode cX4_soonest 12 = .ok (.invokevirtual 99, 3) := by decide +kernel
theorem dX4_soonest_15 : decode cX4_soonest 15 = .ok (.ireturn, 1) := by decide +kernel
theorem dX4_soonest_16 : decode cX4_soonest 16 = .ok (.aload_n 0, 1) := by decide +kernel
theorem dX4_soonest_17 : decode cX4_soonest 17 = .ok (.iload_n 1, 1) := by decide +kernel
theorem dX4_soonest_18 : decode cX4_soonest 18 = .ok (.invokevirtual 260, 3) := by decide +kernel
theorem dX4_soonest_21 : decode cX4_soonest 21 = .ok (.istore_n 3, 1) := by decide +kernel
theorem dX4_soonest_22 : decode cX4_soonest 22 = .ok (.iload_n 3, 1) := by decide +kernel
theorem dX4_soonest_23 : decode cX4_soonest 23 = .ok (.ifCond .ge 12, 3) := by decide +kernel
theorem dX4_soonest_26 : decode cX4_soonest 26 = .ok (.aload_n 0, 1) := by decide +kernel
theorem dX4_soonest_27 : decode cX4_soonest 27 = .ok (.ldc 142, 2) := by decide +kernel
theorem dX4_soonest_29 : decode cX4_soonest 29 = .ok (.invokevirtual 99, 3) := by decide +kernel
theorem dX4_soonest_32 : decode cX4_soonest 32 = .ok (.goto 4, 3) := by decide +kernel
theorem dX4_soonest_35 : decode cX4_soonest 35 = .ok (.iload_n 3, 1) := by decide +kernel
theorem dX4_soonest_36 : decode cX4_soonest 36 = .ok (.ireturn, 1) := by decide +kernel
theorem dX4_firstFor_0 : decode cX4_firstFor 0 = .ok (.aload_n 0, 1) := by decide +kernel
theorem dX4_firstFor_1 : decode cX4_firstFor 1 = .ok (.iload_n 1, 1) := by decide +kernel
theorem dX4_firstFor_2 : decode cX4_firstFor 2 = .ok (.invokevirtual 257, 3) := by decide +kernel
theorem dX4_firstFor_5 : decode cX4_firstFor 5 = .ok (.istore_n 2, 1) := by decide +kernel
theorem dX4_firstFor_6 : decode cX4_firstFor 6 = .ok (.iload_n 2, 1) := by decide +kernel
theorem dX4_firstFor_7 : decode cX4_firstFor 7 = .ok (.ifCond .eq 9, 3) := by decide +kernel
theorem dX4_firstFor_10 : decode cX4_firstFor 10 = .ok (.aload_n 0, 1) := by decide +kernel
theorem dX4_firstFor_11 : decode cX4_firstFor 11 = .ok (.iload_n 2, 1) := by decide +kernel
theorem dX4_firstFor_12 : decode cX4_firstFor 12 = .ok (.invokevirtual 99, 3) := by decide +kernel
theorem dX4_firstFor_15 : decode cX4_firstFor 15 = .ok (.ireturn, 1) := by decide +kernel
theorem dX4_firstFor_16 : decode cX4_firstFor 16 = .ok (.aload_n 0, 1) := by decide +kernel
theorem dX4_firstFor_17 : decode cX4_firstFor 17 = .ok (.iload_n 1, 1) := by decide +kernel
theorem dX4_firstFor_18 : decode cX4_firstFor 18 = .ok (.invokevirtual 260, 3) := by decide +kernel
theorem dX4_firstFor_21 : decode cX4_firstFor 21 = .ok (.istore_n 3, 1) := by decide +kernel
theorem dX4_firstFor_22 : decode cX4_firstFor 22 = .ok (.iload_n 3, 1) := by decide +kernel
theorem dX4_firstFor_23 : decode cX4_firstFor 23 = .ok (.iconst 1, 1) := by decide +kernel
theorem dX4_firstFor_24 : decode cX4_firstFor 24 = .ok (.if_icmp .ge 12, 3) := by decide +kernel
theorem dX4_firstFor_27 : decode cX4_firstFor 27 = .ok (.aload_n 0, 1) := by decide +kernel
theorem dX4_firstFor_28 : decode cX4_firstFor 28 = .ok (.ldc 142, 2) := by decide +kernel
theorem dX4_firstFor_30 : decode cX4_firstFor 30 = .ok (.invokevirtual 99, 3) := by decide +kernel
theorem dX4_firstFor_33 : decode cX4_firstFor 33 = .ok (.goto 12, 3) := by decide +kernel
theorem dX4_firstFor_36 : decode cX4_firstFor 36 = .ok (.aload_n 0, 1) := by decide +kernel
theorem dX4_firstFor_37 : decode cX4_firstFor 37 = .ok (.getfield 254, 3) := by decide +kernel
theorem dX4_firstFor_40 : decode cX4_firstFor 40 = .ok (.iload_n 3, 1) := by decide +kernel
theorem dX4_firstFor_41 : decode cX4_firstFor 41 = .ok (.iconst 0, 1) := by decide +kernel
theorem dX4_firstFor_42 : decode cX4_firstFor 42 = .ok (.invokestatic 233, 3) := by decide +kernel
theorem dX4_firstFor_45 : decode cX4_firstFor 45 = .ok (.ireturn, 1) := by decide +kernel
theorem dX4_refusesWays_0 : decode cX4_refusesWays 0 = .ok (.iload_n 1, 1) := by decide +kernel
theorem dX4_refusesWays_1 : decode cX4_refusesWays 1 = .ok (.iconst 0, 1) := by decide +kernel
theorem dX4_refusesWays_2 : decode cX4_refusesWays 2 = .ok (.iconst 3, 1) := by decide +kernel
theorem dX4_refusesWays_3 : decode cX4_refusesWays 3 = .ok (.invokestatic 77, 3) := by decide +kernel
theorem dX4_refusesWays_6 : decode cX4_refusesWays 6 = .ok (.ifCond .ne 8, 3) := by decide +kernel
theorem dX4_refusesWays_9 : decode cX4_refusesWays 9 = .ok (.ldc 72, 2) := by decide +kernel
theorem dX4_refusesWays_11 : decode cX4_refusesWays 11 = .ok (.goto 34, 3) := by decide +kernel
theorem dX4_refusesWays_14 : decode cX4_refusesWays 14 = .ok (.aload_n 0, 1) := by decide +kernel
theorem dX4_refusesWays_15 : decode cX4_refusesWays 15 = .ok (.bipush 100, 2) := by decide +kernel
theorem dX4_refusesWays_17 : decode cX4_refusesWays 17 = .ok (.invokevirtual 177, 3) := by decide +kernel
theorem dX4_refusesWays_20 : decode cX4_refusesWays 20 = .ok (.invokestatic 236, 3) := by decide +kernel
theorem dX4_refusesWays_23 : decode cX4_refusesWays 23 = .ok (.iload_n 1, 1) := by decide +kernel
theorem dX4_refusesWays_24 : decode cX4_refusesWays 24 = .ok (.if_icmp .lt 15, 3) := by decide +kernel
theorem dX4_refusesWays_27 : decode cX4_refusesWays 27 = .ok (.aload_n 0, 1) := by decide +kernel
theorem dX4_refusesWays_28 : decode cX4_refusesWays 28 = .ok (.getfield 9, 3) := by decide +kernel
theorem dX4_refusesWays_31 : decode cX4_refusesWays 31 = .ok (.iconst 0, 1) := by decide +kernel
theorem dX4_refusesWays_32 : decode cX4_refusesWays 32 = .ok (.iaload, 1) := by decide +kernel
theorem dX4_refusesWays_33 : decode cX4_refusesWays 33 = .ok (.sipush 9900, 3) := by decide +kernel
theorem dX4_refusesWays_36 : decode cX4_refusesWays 36 = .ok (.if_icmp .le 8, 3) := by decide +kernel
theorem dX4_refusesWays_39 : decode cX4_refusesWays 39 = .ok (.ldc 137, 2) := by decide +kernel
theorem dX4_refusesWays_41 : decode cX4_refusesWays 41 = .ok (.goto 4, 3) := by decide +kernel
theorem dX4_refusesWays_44 : decode cX4_refusesWays 44 = .ok (.iconst 0, 1) := by decide +kernel
theorem dX4_refusesWays_45 : decode cX4_refusesWays 45 = .ok (.ireturn, 1) := by decide +kernel
theorem dX4_ways__0 : decode cX4_ways_ 0 = .ok (.aload_n 0, 1) := by decide +kernel
theorem dX4_ways__1 : decode cX4_ways_ 1 = .ok (.iload_n 1, 1) := by decide +kernel
theorem dX4_ways__2 : decode cX4_ways_ 2 = .ok (.invokevirtual 263, 3) := by decide +kernel
theorem dX4_ways__5 : decode cX4_ways_ 5 = .ok (.istore_n 3, 1) := by decide +kernel
theorem dX4_ways__6 : decode cX4_ways_ 6 = .ok (.iload_n 3, 1) := by decide +kernel
theorem dX4_ways__7 : decode cX4_ways_ 7 = .ok (.ldc 72, 2) := by decide +kernel
theorem dX4_ways__9 : decode cX4_ways_ 9 = .ok (.if_icmp .eq 15, 3) := by decide +kernel
theorem dX4_ways__12 : decode cX4_ways_ 12 = .ok (.iload_n 2, 1) := by decide +kernel
theorem dX4_ways__13 : decode cX4_ways_ 13 = .ok (.bipush (-99), 2) := by decide +kernel
theorem dX4_ways__15 : decode cX4_ways_ 15 = .ok (.sipush 999, 3) := by decide +kernel
theorem dX4_ways__18 : decode cX4_ways_ 18 = .ok (.invokestatic 77, 3) := by decide +kernel
theorem dX4_ways__21 : decode cX4_ways_ 21 = .ok (.ifCond .ne 11, 3) := by decide +kernel
theorem dX4_ways__24 : decode cX4_ways_ 24 = .ok (.aload_n 0, 1) := by decide +kernel
theorem dX4_ways__25 : decode cX4_ways_ 25 = .ok (.ldc 72, 2) := by decide +kernel
theorem dX4_ways__27 : decode cX4_ways_ 27 = .ok (.invokevirtual 99, 3) := by decide +kernel
theorem dX4_ways__30 : decode cX4_ways_ 30 = .ok (.i2l, 1) := by decide +kernel
theorem dX4_ways__31 : decode cX4_ways_ 31 = .ok (.lreturn, 1) := by decide +kernel
theorem dX4_ways__32 : decode cX4_ways_ 32 = .ok (.iload_n 3, 1) := by decide +kernel
theorem dX4_ways__33 : decode cX4_ways_ 33 = .ok (.ifCond .eq 10, 3) := by decide +kernel
theorem dX4_ways__36 : decode cX4_ways_ 36 = .ok (.aload_n 0, 1) := by decide +kernel
theorem dX4_ways__37 : decode cX4_ways_ 37 = .ok (.iload_n 3, 1) := by decide +kernel
theorem dX4_ways__38 : decode cX4_ways_ 38 = .ok (.invokevirtual 99, 3) := by decide +kernel
theorem dX4_ways__41 : decode cX4_ways_ 41 = .ok (.i2l, 1) := by decide +kernel
theorem dX4_ways__42 : decode cX4_ways_ 42 = .ok (.lreturn, 1) := by decide +kernel
theorem dX4_ways__43 : decode cX4_ways_ 43 = .ok (.aload_n 0, 1) := by decide +kernel
theorem dX4_ways__44 : decode cX4_ways_ 44 = .ok (.getfield 9, 3) := by decide +kernel
theorem dX4_ways__47 : decode cX4_ways_ 47 = .ok (.aload_n 0, 1) := by decide +kernel
theorem dX4_ways__48 : decode cX4_ways_ 48 = .ok (.getfield 16, 3) := by decide +kernel
theorem dX4_ways__51 : decode cX4_ways_ 51 = .ok (.invokestatic 73, 3) := by decide +kernel
theorem dX4_ways__54 : decode cX4_ways_ 54 = .ok (.lconst 0, 1) := by decide +kernel
theorem dX4_ways__55 : decode cX4_ways_ 55 = .ok (.lstore 4, 2) := by decide +kernel
theorem dX4_ways__57 : decode cX4_ways_ 57 = .ok (.iconst 0, 1) := by decide +kernel
theorem dX4_ways__58 : decode cX4_ways_ 58 = .ok (.istore 6, 2) := by decide +kernel
theorem dX4_ways__60 : decode cX4_ways_ 60 = .ok (.iload 6, 2) := by decide +kernel
theorem dX4_ways__62 : decode cX4_ways_ 62 = .ok (.iload_n 1, 1) := by decide +kernel
theorem dX4_ways__63 : decode cX4_ways_ 63 = .ok (.invokestatic 227, 3) := by decide +kernel
theorem dX4_ways__66 : decode cX4_ways_ 66 = .ok (.if_icmp .ge 38, 3) := by decide +kernel
theorem dX4_ways__69 : decode cX4_ways_ 69 = .ok (.aload_n 0, 1) := by decide +kernel
theorem dX4_ways__70 : decode cX4_ways_ 70 = .ok (.iload 6, 2) := by decide +kernel
theorem dX4_ways__72 : decode cX4_ways_ 72 = .ok (.iload_n 1, 1) := by decide +kernel
theorem dX4_ways__73 : decode cX4_ways_ 73 = .ok (.invokevirtual 242, 3) := by decide +kernel
theorem dX4_ways__76 : decode cX4_ways_ 76 = .ok (.lload 4, 2) := by decide +kernel
theorem dX4_ways__78 : decode cX4_ways_ 78 = .ok (.aload_n 0, 1) := by decide +kernel
theorem dX4_ways__79 : decode cX4_ways_ 79 = .ok (.aload_n 0, 1) := by decide +kernel
theorem dX4_ways__80 : decode cX4_ways_ 80 = .ok (.invokevirtual 186, 3) := by decide +kernel
theorem dX4_ways__83 : decode cX4_ways_ 83 = .ok (.invokevirtual 210, 3) := by decide +kernel
theorem dX4_ways__86 : decode cX4_ways_ 86 = .ok (.iload_n 2, 1) := by decide +kernel
theorem dX4_ways__87 : decode cX4_ways_ 87 = .ok (.if_icmp .lt 7, 3) := by decide +kernel
theorem dX4_ways__90 : decode cX4_ways_ 90 = .ok (.lconst 1, 1) := by decide +kernel
theorem dX4_ways__91 : decode cX4_ways_ 91 = .ok (.goto 4, 3) := by decide +kernel
theorem dX4_ways__94 : decode cX4_ways_ 94 = .ok (.lconst 0, 1) := by decide +kernel
theorem dX4_ways__95 : decode cX4_ways_ 95 = .ok (.ladd, 1) := by decide +kernel
theorem dX4_ways__96 : decode cX4_ways_ 96 = .ok (.lstore 4, 2) := by decide +kernel
theorem dX4_ways__98 : decode cX4_ways_ 98 = .ok (.iinc 6 1, 3) := by decide +kernel
theorem dX4_ways__101 : decode cX4_ways_ 101 = .ok (.goto (-41), 3) := by decide +kernel
theorem dX4_ways__104 : decode cX4_ways_ 104 = .ok (.lload 4, 2) := by decide +kernel
theorem dX4_ways__106 : decode cX4_ways_ 106 = .ok (.lreturn, 1) := by decide +kernel
theorem dX4_total_0 : decode cX4_total 0 = .ok (.aload_n 0, 1) := by decide +kernel
theorem dX4_total_1 : decode cX4_total 1 = .ok (.iload_n 1, 1) := by decide +kernel
theorem dX4_total_2 : decode cX4_total 2 = .ok (.invokevirtual 263, 3) := by decide +kernel
theorem dX4_total_5 : decode cX4_total 5 = .ok (.istore_n 2, 1) := by decide +kernel
theorem dX4_total_6 : decode cX4_total 6 = .ok (.iload_n 2, 1) := by decide +kernel
theorem dX4_total_7 : decode cX4_total 7 = .ok (.ifCond .eq 10, 3) := by decide +kernel
theorem dX4_total_10 : decode cX4_total 10 = .ok (.aload_n 0, 1) := by decide +kernel
theorem dX4_total_11 : decode cX4_total 11 = .ok (.iload_n 2, 1) := by decide +kernel
theorem dX4_total_12 : decode cX4_total 12 = .ok (.invokevirtual 99, 3) := by decide +kernel
theorem dX4_total_15 : decode cX4_total 15 = .ok (.i2l, 1) := by decide +kernel
theorem dX4_total_16 : decode cX4_total 16 = .ok (.lreturn, 1) := by decide +kernel
theorem dX4_total_17 : decode cX4_total 17 = .ok (.aload_n 0, 1) := by decide +kernel
theorem dX4_total_18 : decode cX4_total 18 = .ok (.getfield 9, 3) := by decide +kernel
theorem dX4_total_21 : decode cX4_total 21 = .ok (.aload_n 0, 1) := by decide +kernel
theorem dX4_total_22 : decode cX4_total 22 = .ok (.getfield 16, 3) := by decide +kernel
theorem dX4_total_25 : decode cX4_total 25 = .ok (.invokestatic 73, 3) := by decide +kernel
theorem dX4_total_28 : decode cX4_total 28 = .ok (.aload_n 0, 1) := by decide +kernel
theorem dX4_total_29 : decode cX4_total 29 = .ok (.invokevirtual 186, 3) := by decide +kernel
theorem dX4_total_32 : decode cX4_total 32 = .ok (.istore_n 3, 1) := by decide +kernel
theorem dX4_total_33 : decode cX4_total 33 = .ok (.lconst 0, 1) := by decide +kernel
theorem dX4_total_34 : decode cX4_total 34 = .ok (.lstore 4, 2) := by decide +kernel
theorem dX4_total_36 : decode cX4_total 36 = .ok (.iconst 0, 1) := by decide +kernel
theorem dX4_total_37 : decode cX4_total 37 = .ok (.istore 6, 2) := by decide +kernel
theorem dX4_total_39 : decode cX4_total 39 = .ok (.iload 6, 2) := by decide +kernel
theorem dX4_total_41 : decode cX4_total 41 = .ok (.iload_n 1, 1) := by decide +kernel
theorem dX4_total_42 : decode cX4_total 42 = .ok (.invokestatic 227, 3) := by decide +kernel
theorem dX4_total_45 : decode cX4_total 45 = .ok (.if_icmp .ge 32, 3) := by decide +kernel
theorem dX4_total_48 : decode cX4_total 48 = .ok (.aload_n 0, 1) := by decide +kernel
theorem dX4_total_49 : decode cX4_total 49 = .ok (.iload 6, 2) := by decide +kernel
theorem dX4_total_51 : decode cX4_total 51 = .ok (.iload_n 1, 1) := by decide +kernel
theorem dX4_total_52 : decode cX4_total 52 = .ok (.invokevirtual 242, 3) := by decide +kernel
theorem dX4_total_55 : decode cX4_total 55 = .ok (.lload 4, 2) := by decide +kernel
theorem dX4_total_57 : decode cX4_total 57 = .ok (.aload_n 0, 1) := by decide +kernel
theorem dX4_total_58 : decode cX4_total 58 = .ok (.aload_n 0, 1) := by decide +kernel
theorem dX4_total_59 : decode cX4_total 59 = .ok (.invokevirtual 186, 3) := by decide +kernel
theorem dX4_total_62 : decode cX4_total 62 = .ok (.invokevirtual 210, 3) := by decide +kernel
theorem dX4_total_65 : decode cX4_total 65 = .ok (.iload_n 3, 1) := by decide +kernel
theorem dX4_total_66 : decode cX4_total 66 = .ok (.isub, 1) := by decide +kernel
theorem dX4_total_67 : decode cX4_total 67 = .ok (.i2l, 1) := by decide +kernel
theorem dX4_total_68 : decode cX4_total 68 = .ok (.ladd, 1) := by decide +kernel
theorem dX4_total_69 : decode cX4_total 69 = .ok (.lstore 4, 2) := by decide +kernel
theorem dX4_total_71 : decode cX4_total 71 = .ok (.iinc 6 1, 3) := by decide +kernel
theorem dX4_total_74 : decode cX4_total 74 = .ok (.goto (-35), 3) := by decide +kernel
theorem dX4_total_77 : decode cX4_total 77 = .ok (.lload 4, 2) := by decide +kernel
theorem dX4_total_79 : decode cX4_total 79 = .ok (.lreturn, 1) := by decide +kernel
theorem dX4_luck_0 : decode cX4_luck 0 = .ok (.aload_n 0, 1) := by decide +kernel
theorem dX4_luck_1 : decode cX4_luck 1 = .ok (.iload_n 2, 1) := by decide +kernel
theorem dX4_luck_2 : decode cX4_luck 2 = .ok (.invokevirtual 263, 3) := by decide +kernel
theorem dX4_luck_5 : decode cX4_luck 5 = .ok (.istore_n 3, 1) := by decide +kernel
theorem dX4_luck_6 : decode cX4_luck 6 = .ok (.iload_n 3, 1) := by decide +kernel
theorem dX4_luck_7 : decode cX4_luck 7 = .ok (.ldc 72, 2) := by decide +kernel
theorem dX4_luck_9 : decode cX4_luck 9 = .ok (.if_icmp .eq 11, 3) := by decide +kernel
theorem dX4_luck_12 : decode cX4_luck 12 = .ok (.aload_n 0, 1) := by decide +kernel
theorem dX4_luck_13 : decode cX4_luck 13 = .ok (.iload_n 1, 1) := by decide +kernel
theorem dX4_luck_14 : decode cX4_luck 14 = .ok (.invokevirtual 116, 3) := by decide +kernel
theorem dX4_luck_17 : decode cX4_luck 17 = .ok (.ifCond .ne 11, 3) := by decide +kernel
theorem dX4_luck_20 : decode cX4_luck 20 = .ok (.aload_n 0, 1) := by decide +kernel
theorem dX4_luck_21 : decode cX4_luck 21 = .ok (.ldc 72, 2) := by decide +kernel
theorem dX4_luck_23 : decode cX4_luck 23 = .ok (.invokevirtual 99, 3) := by decide +kernel
theorem dX4_luck_26 : decode cX4_luck 26 = .ok (.i2l, 1) := by decide +kernel
theorem dX4_luck_27 : decode cX4_luck 27 = .ok (.lreturn, 1) := by decide +kernel
theorem dX4_luck_28 : decode cX4_luck 28 = .ok (.iload_n 3, 1) := by decide +kernel
theorem dX4_luck_29 : decode cX4_luck 29 = .ok (.ifCond .eq 10, 3) := by decide +kernel
theorem dX4_luck_32 : decode cX4_luck 32 = .ok (.aload_n 0, 1) := by decide +kernel
theorem dX4_luck_33 : decode cX4_luck 33 = .ok (.iload_n 3, 1) := by decide +kernel
theorem dX4_luck_34 : decode cX4_luck 34 = .ok (.invokevirtual 99, 3) := by decide +kernel
theorem dX4_luck_37 : decode cX4_luck 37 = .ok (.i2l, 1) := by decide +kernel
theorem dX4_luck_38 : decode cX4_luck 38 = .ok (.lreturn, 1) := by decide +kernel
theorem dX4_luck_39 : decode cX4_luck 39 = .ok (.aload_n 0, 1) := by decide +kernel
theorem dX4_luck_40 : decode cX4_luck 40 = .ok (.getfield 9, 3) := by decide +kernel
theorem dX4_luck_43 : decode cX4_luck 43 = .ok (.aload_n 0, 1) := by decide +kernel
theorem dX4_luck_44 : decode cX4_luck 44 = .ok (.getfield 16, 3) := by decide +kernel
theorem dX4_luck_47 : decode cX4_luck 47 = .ok (.invokestatic 73, 3) := by decide +kernel
theorem dX4_luck_50 : decode cX4_luck 50 = .ok (.lconst 0, 1) := by decide +kernel
theorem dX4_luck_51 : decode cX4_luck 51 = .ok (.lstore 4, 2) := by decide +kernel
theorem dX4_luck_53 : decode cX4_luck 53 = .ok (.iconst 0, 1) := by decide +kernel
theorem dX4_luck_54 : decode cX4_luck 54 = .ok (.istore 6, 2) := by decide +kernel
theorem dX4_luck_56 : decode cX4_luck 56 = .ok (.iload 6, 2) := by decide +kernel
theorem dX4_luck_58 : decode cX4_luck 58 = .ok (.iload_n 2, 1) := by decide +kernel
theorem dX4_luck_59 : decode cX4_luck 59 = .ok (.invokestatic 227, 3) := by decide +kernel
theorem dX4_luck_62 : decode cX4_luck 62 = .ok (.if_icmp .ge 44, 3) := by decide +kernel
theorem dX4_luck_65 : decode cX4_luck 65 = .ok (.aload_n 0, 1) := by decide +kernel
theorem dX4_luck_66 : decode cX4_luck 66 = .ok (.iload 6, 2) := by decide +kernel
theorem dX4_luck_68 : decode cX4_luck 68 = .ok (.iload_n 2, 1) := by decide +kernel
theorem dX4_luck_69 : decode cX4_luck 69 = .ok (.invokevirtual 242, 3) := by decide +kernel
theorem dX4_luck_72 : decode cX4_luck 72 = .ok (.lload 4, 2) := by decide +kernel
theorem dX4_luck_74 : decode cX4_luck 74 = .ok (.aload_n 0, 1) := by decide +kernel
theorem dX4_luck_75 : decode cX4_luck 75 = .ok (.aload_n 0, 1) := by decide +kernel
theorem dX4_luck_76 : decode cX4_luck 76 = .ok (.getfield 9, 3) := by decide +kernel
theorem dX4_luck_79 : decode cX4_luck 79 = .ok (.bipush 41, 2) := by decide +kernel
theorem dX4_luck_81 : decode cX4_luck 81 = .ok (.iload_n 1, 1) := by decide +kernel
theorem dX4_luck_82 : decode cX4_luck 82 = .ok (.iadd, 1) := by decide +kernel
theorem dX4_luck_83 : decode cX4_luck 83 = .ok (.iaload, 1) := by decide +kernel
theorem dX4_luck_84 : decode cX4_luck 84 = .ok (.invokevirtual 210, 3) := by decide +kernel
theorem dX4_luck_87 : decode cX4_luck 87 = .ok (.bipush 101, 2) := by decide +kernel
theorem dX4_luck_89 : decode cX4_luck 89 = .ok (.if_icmp .ne 7, 3) := by decide +kernel
theorem dX4_luck_92 : decode cX4_luck 92 = .ok (.lconst 1, 1) := by decide +kernel
theorem dX4_luck_93 : decode cX4_luck 93 = .ok (.goto 4, 3) := by decide +kernel
theorem dX4_luck_96 : decode cX4_luck 96 = .ok (.lconst 0, 1) := by decide +kernel
theorem dX4_luck_97 : decode cX4_luck 97 = .ok (.ladd, 1) := by decide +kernel
theorem dX4_luck_98 : decode cX4_luck 98 = .ok (.lstore 4, 2) := by decide +kernel
theorem dX4_luck_100 : decode cX4_luck 100 = .ok (.iinc 6 1, 3) := by decide +kernel
theorem dX4_luck_103 : decode cX4_luck 103 = .ok (.goto (-47), 3) := by decide +kernel
theorem dX4_luck_106 : decode cX4_luck 106 = .ok (.lload 4, 2) := by decide +kernel
theorem dX4_luck_108 : decode cX4_luck 108 = .ok (.lreturn, 1) := by decide +kernel
theorem dX4_drawn_0 : decode cX4_drawn 0 = .ok (.aload_n 0, 1) := by decide +kernel
theorem dX4_drawn_1 : decode cX4_drawn 1 = .ok (.getfield 9, 3) := by decide +kernel
theorem dX4_drawn_4 : decode cX4_drawn 4 = .ok (.bipush 6, 2) := by decide +kernel
theorem dX4_drawn_6 : decode cX4_drawn 6 = .ok (.aload_n 0, 1) := by decide +kernel
theorem dX4_drawn_7 : decode cX4_drawn 7 = .ok (.getfield 9, 3) := by decide +kernel
theorem dX4_drawn_10 : decode cX4_drawn 10 = .ok (.bipush 6, 2) := by decide +kernel
theorem dX4_drawn_12 : decode cX4_drawn 12 = .ok (.iaload, 1) := by decide +kernel
theorem dX4_drawn_13 : decode cX4_drawn 13 = .ok (.ldc_w 266, 3) := by decide +kernel
theorem dX4_drawn_16 : decode cX4_drawn 16 = .ok (.imul, 1) := by decide +kernel
theorem dX4_drawn_17 : decode cX4_drawn 17 = .ok (.sipush 12345, 3) := by decide +kernel
theorem dX4_drawn_20 : decode cX4_drawn 20 = .ok (.iadd, 1) := by decide +kernel
theorem dX4_drawn_21 : decode cX4_drawn 21 = .ok (.iastore, 1) := by decide +kernel
theorem dX4_drawn_22 : decode cX4_drawn 22 = .ok (.aload_n 0, 1) := by decide +kernel
theorem dX4_drawn_23 : decode cX4_drawn 23 = .ok (.getfield 9, 3) := by decide +kernel
theorem dX4_drawn_26 : decode cX4_drawn 26 = .ok (.bipush 6, 2) := by decide +kernel
theorem dX4_drawn_28 : decode cX4_drawn 28 = .ok (.iaload, 1) := by decide +kernel
theorem dX4_drawn_29 : decode cX4_drawn 29 = .ok (.bipush 8, 2) := by decide +kernel
theorem dX4_drawn_31 : decode cX4_drawn 31 = .ok (.iushr, 1) := by decide +kernel
theorem dX4_drawn_32 : decode cX4_drawn 32 = .ok (.iload_n 1, 1) := by decide +kernel
theorem dX4_drawn_33 : decode cX4_drawn 33 = .ok (.irem, 1) := by decide +kernel
theorem dX4_drawn_34 : decode cX4_drawn 34 = .ok (.ireturn, 1) := by decide +kernel
theorem dX4_play_0 : decode cX4_play 0 = .ok (.iload_n 1, 1) := by decide +kernel
theorem dX4_play_1 : decode cX4_play 1 = .ok (.iconst 1, 1) := by decide +kernel
theorem dX4_play_2 : decode cX4_play 2 = .ok (.bipush 12, 2) := by decide +kernel
theorem dX4_play_4 : decode cX4_play 4 = .ok (.invokestatic 77, 3) := by decide +kernel
theorem dX4_play_7 : decode cX4_play 7 = .ok (.ifCond .ne 10, 3) := by decide +kernel
theorem dX4_play_10 : decode cX4_play 10 = .ok (.aload_n 0, 1) := by decide +kernel
theorem dX4_play_11 : decode cX4_play 11 = .ok (.ldc 72, 2) := by decide +kernel
theorem dX4_play_13 : decode cX4_play 13 = .ok (.invokevirtual 99, 3) := by decide +kernel
theorem dX4_play_16 : decode cX4_play 16 = .ok (.ireturn, 1) := by decide +kernel
theorem dX4_play_17 : decode cX4_play 17 = .ok (.aload_n 0, 1) := by decide +kernel
theorem dX4_play_18 : decode cX4_play 18 = .ok (.bipush 100, 2) := by decide +kernel
theorem dX4_play_20 : decode cX4_play 20 = .ok (.invokevirtual 177, 3) := by decide +kernel
theorem dX4_play_23 : decode cX4_play 23 = .ok (.invokestatic 236, 3) := by decide +kernel
theorem dX4_play_26 : decode cX4_play 26 = .ok (.iload_n 1, 1) := by decide +kernel
theorem dX4_play_27 : decode cX4_play 27 = .ok (.if_icmp .lt 15, 3) := by decide +kernel
theorem dX4_play_30 : decode cX4_play 30 = .ok (.aload_n 0, 1) := by decide +kernel
theorem dX4_play_31 : decode cX4_play 31 = .ok (.getfield 9, 3) := by decide +kernel
theorem dX4_play_34 : decode cX4_play 34 = .ok (.iconst 0, 1) := by decide +kernel
theorem dX4_play_35 : decode cX4_play 35 = .ok (.iaload, 1) := by decide +kernel
theorem dX4_play_36 : decode cX4_play 36 = .ok (.sipush 9900, 3) := by decide +kernel
theorem dX4_play_39 : decode cX4_play 39 = .ok (.if_icmp .le 10, 3) := by decide +kernel
theorem dX4_play_42 : decode cX4_play 42 = .ok (.aload_n 0, 1) := by decide +kernel
theorem dX4_play_43 : decode cX4_play 43 = .ok (.ldc 137, 2) := by decide +kernel
theorem dX4_play_45 : decode cX4_play 45 = .ok (.invokevirtual 99, 3) := by decide +kernel
theorem dX4_play_48 : decode cX4_play 48 = .ok (.ireturn, 1) := by decide +kernel
theorem dX4_play_49 : decode cX4_play 49 = .ok (.aload_n 0, 1) := by decide +kernel
theorem dX4_play_50 : decode cX4_play 50 = .ok (.invokevirtual 186, 3) := by decide +kernel
theorem dX4_play_53 : decode cX4_play 53 = .ok (.istore_n 2, 1) := by decide +kernel
theorem dX4_play_54 : decode cX4_play 54 = .ok (.iconst 0, 1) := by decide +kernel
theorem dX4_play_55 : decode cX4_play 55 = .ok (.istore_n 3, 1) := by decide +kernel
theorem dX4_play_56 : decode cX4_play 56 = .ok (.iload_n 3, 1) := by decide +kernel
theorem dX4_play_57 : decode cX4_play 57 = .ok (.iload_n 1, 1) := by decide +kernel
theorem dX4_play_58 : decode cX4_play 58 = .ok (.if_icmp .ge 23, 3) := by decide +kernel
theorem dX4_play_61 : decode cX4_play 61 = .ok (.aload_n 0, 1) := by decide +kernel
theorem dX4_play_62 : decode cX4_play 62 = .ok (.aload_n 0, 1) := by decide +kernel
theorem dX4_play_63 : decode cX4_play 63 = .ok (.invokevirtual 230, 3) := by decide +kernel
theorem dX4_play_66 : decode cX4_play 66 = .ok (.aload_n 0, 1) := by decide +kernel
theorem dX4_play_67 : decode cX4_play 67 = .ok (.bipush 7, 2) := by decide +kernel
theorem dX4_play_69 : decode cX4_play 69 = .ok (.invokevirtual 267, 3) := by decide +kernel
theorem dX4_play_72 : decode cX4_play 72 = .ok (.invokevirtual 190, 3) := by decide +kernel
theorem dX4_play_75 : decode cX4_play 75 = .ok (.iinc 3 1, 3) := by decide +kernel
theorem dX4_play_78 : decode cX4_play 78 = .ok (.goto (-22), 3) := by decide +kernel
theorem dX4_play_81 : decode cX4_play 81 = .ok (.aload_n 0, 1) := by decide +kernel
theorem dX4_play_82 : decode cX4_play 82 = .ok (.invokevirtual 186, 3) := by decide +kernel
theorem dX4_play_85 : decode cX4_play 85 = .ok (.iload_n 2, 1) := by decide +kernel
theorem dX4_play_86 : decode cX4_play 86 = .ok (.isub, 1) := by decide +kernel
theorem dX4_play_87 : decode cX4_play 87 = .ok (.ireturn, 1) := by decide +kernel
theorem dX4_jolt_0 : decode cX4_jolt 0 = .ok (.iconst 0, 1) := by decide +kernel
theorem dX4_jolt_1 : decode cX4_jolt 1 = .ok (.istore_n 1, 1) := by decide +kernel
theorem dX4_jolt_2 : decode cX4_jolt 2 = .ok (.iconst 5, 1) := by decide +kernel
theorem dX4_jolt_3 : decode cX4_jolt 3 = .ok (.istore_n 2, 1) := by decide +kernel
theorem dX4_jolt_4 : decode cX4_jolt 4 = .ok (.iload_n 2, 1) := by decide +kernel
theorem dX4_jolt_5 : decode cX4_jolt 5 = .ok (.ifCond .lt 91, 3) := by decide +kernel
theorem dX4_jolt_8 : decode cX4_jolt 8 = .ok (.iconst 0, 1) := by decide +kernel
theorem dX4_jolt_9 : decode cX4_jolt 9 = .ok (.istore_n 3, 1) := by decide +kernel
theorem dX4_jolt_10 : decode cX4_jolt 10 = .ok (.iload_n 3, 1) := by decide +kernel
theorem dX4_jolt_11 : decode cX4_jolt 11 = .ok (.bipush 7, 2) := by decide +kernel
theorem dX4_jolt_13 : decode cX4_jolt 13 = .ok (.if_icmp .ge 77, 3) := by decide +kernel
theorem dX4_jolt_16 : decode cX4_jolt 16 = .ok (.iload_n 3, 1) := by decide +kernel
theorem dX4_jolt_17 : decode cX4_jolt 17 = .ok (.iload_n 2, 1) := by decide +kernel
theorem dX4_jolt_18 : decode cX4_jolt 18 = .ok (.invokestatic 119, 3) := by decide +kernel
theorem dX4_jolt_21 : decode cX4_jolt 21 = .ok (.istore 4, 2) := by decide +kernel
theorem dX4_jolt_23 : decode cX4_jolt 23 = .ok (.iload_n 2, 1) := by decide +kernel
theorem dX4_jolt_24 : decode cX4_jolt 24 = .ok (.iconst 5, 1) := by decide +kernel
theorem dX4_jolt_25 : decode cX4_jolt 25 = .ok (.if_icmp .eq 15, 3) := by decide +kernel
theorem dX4_jolt_28 : decode cX4_jolt 28 = .ok (.aload_n 0, 1) := by decide +kernel
theorem dX4_jolt_29 : decode cX4_jolt 29 = .ok (.iload 4, 2) := by decide +kernel
theorem dX4_jolt_31 : decode cX4_jolt 31 = .ok (.iconst 1, 1) := by decide +kernel
theorem dX4_jolt_32 : decode cX4_jolt 32 = .ok (.iadd, 1) := by decide +kernel
theorem dX4_jolt_33 : decode cX4_jolt 33 = .ok (.invokevirtual 85, 3) := by decide +kernel
theorem dX4_jolt_36 : decode cX4_jolt 36 = .ok (.iconst 4, 1) := by decide +kernel
theorem dX4_jolt_37 : decode cX4_jolt 37 = .ok (.if_icmp .ge 7, 3) := by decide +kernel
theorem dX4_jolt_40 : decode cX4_jolt 40 = .ok (.iconst 1, 1) := by decide +kernel
theorem dX4_jolt_41 : decode cX4_jolt 41 = .ok (.goto 4, 3) := by decide +kernel
theorem dX4_jolt_44 : decode cX4_jolt 44 = .ok (.iconst 0, 1) := by decide +kernel
