theorem dX6_crossed_5 : decode cX6_crossed 5 = .ok (.invokevirtual 143, 3) := by decide +kernel
theorem dX6_crossed_8 : decode cX6_crossed 8 = .ok (.ifCond .eq 19, 3) := by decide +kernel
theorem dX6_crossed_11 : decode cX6_crossed 11 = .ok (.aload_n 0, 1) := by decide +kernel
theorem dX6_crossed_12 : decode cX6_crossed 12 = .ok (.getfield 10, 3) := by decide +kernel
theorem dX6_crossed_15 : decode cX6_crossed 15 = .ok (.iload_n 2, 1) := by decide +kernel
theorem dX6_crossed_16 : decode cX6_crossed 16 = .ok (.invokevirtual 143, 3) := by decide +kernel
theorem dX6_crossed_19 : decode cX6_crossed 19 = .ok (.ifCond .eq 8, 3) := by decide +kernel
theorem dX6_crossed_22 : decode cX6_crossed 22 = .ok (.iload_n 1, 1) := by decide +kernel
theorem dX6_crossed_23 : decode cX6_crossed 23 = .ok (.iload_n 2, 1) := by decide +kernel
theorem dX6_crossed_24 : decode cX6_crossed 24 = .ok (.if_icmp .ne 5, 3) := by decide +kernel
theorem dX6_crossed_27 : decode cX6_crossed 27 = .ok (.iconst (-1), 1) := by decide +kernel
theorem dX6_crossed_28 : decode cX6_crossed 28 = .ok (.ireturn, 1) := by decide +kernel
theorem dX6_crossed_29 : decode cX6_crossed 29 = .ok (.aload_n 0, 1) := by decide +kernel
theorem dX6_crossed_30 : decode cX6_crossed 30 = .ok (.getfield 10, 3) := by decide +kernel
theorem dX6_crossed_33 : decode cX6_crossed 33 = .ok (.iload_n 1, 1) := by decide +kernel
theorem dX6_crossed_34 : decode cX6_crossed 34 = .ok (.iload_n 2, 1) := by decide +kernel
theorem dX6_crossed_35 : decode cX6_crossed 35 = .ok (.aload_n 0, 1) := by decide +kernel
theorem dX6_crossed_36 : decode cX6_crossed 36 = .ok (.getfield 10, 3) := by decide +kernel
theorem dX6_crossed_39 : decode cX6_crossed 39 = .ok (.invokevirtual 187, 3) := by decide +kernel
theorem dX6_crossed_42 : decode cX6_crossed 42 = .ok (.invokevirtual 191, 3) := by decide +kernel
theorem dX6_crossed_45 : decode cX6_crossed 45 = .ok (.ifCond .eq 7, 3) := by decide +kernel
theorem dX6_crossed_48 : decode cX6_crossed 48 = .ok (.iconst 1, 1) := by decide +kernel
theorem dX6_crossed_49 : decode cX6_crossed 49 = .ok (.goto 4, 3) := by decide +kernel
theorem dX6_crossed_52 : decode cX6_crossed 52 = .ok (.iconst 0, 1) := by decide +kernel
theorem dX6_crossed_53 : decode cX6_crossed 53 = .ok (.ireturn, 1) := by decide +kernel
theorem dX6_least_0 : decode cX6_least 0 = .ok (.aload_n 0, 1) := by decide +kernel
theorem dX6_least_1 : decode cX6_least 1 = .ok (.getfield 10, 3) := by decide +kernel
theorem dX6_least_4 : decode cX6_least 4 = .ok (.iload_n 1, 1) := by decide +kernel
theorem dX6_least_5 : decode cX6_least 5 = .ok (.invokevirtual 111, 3) := by decide +kernel
theorem dX6_least_8 : decode cX6_least 8 = .ok (.ifCond .eq 27, 3) := by decide +kernel
theorem dX6_least_11 : decode cX6_least 11 = .ok (.aload_n 0, 1) := by decide +kernel
theorem dX6_least_12 : decode cX6_least 12 = .ok (.getfield 10, 3) := by decide +kernel
theorem dX6_least_15 : decode cX6_least 15 = .ok (.iload_n 2, 1) := by decide +kernel
theorem dX6_least_16 : decode cX6_least 16 = .ok (.invokevirtual 195, 3) := by decide +kernel
theorem dX6_least_19 : decode cX6_least 19 = .ok (.ifCond .eq 16, 3) := by decide +kernel
theorem dX6_least_22 : decode cX6_least 22 = .ok (.aload_n 0, 1) := by decide +kernel
theorem dX6_least_23 : decode cX6_least 23 = .ok (.getfield 10, 3) := by decide +kernel
theorem dX6_least_26 : decode cX6_least 26 = .ok (.iload_n 1, 1) := by decide +kernel
theorem dX6_least_27 : decode cX6_least 27 = .ok (.iload_n 2, 1) := by decide +kernel
theorem dX6_least_28 : decode cX6_least 28 = .ok (.iload_n 2, 1) := by decide +kernel
theorem dX6_least_29 : decode cX6_least 29 = .ok (.invokevirtual 198, 3) := by decide +kernel
theorem dX6_least_32 : decode cX6_least 32 = .ok (.goto 4, 3) := by decide +kernel
theorem dX6_least_35 : decode cX6_least 35 = .ok (.iconst (-1), 1) := by decide +kernel
theorem dX6_least_36 : decode cX6_least 36 = .ok (.ireturn, 1) := by decide +kernel
theorem dX6_just_0 : decode cX6_just 0 = .ok (.aload_n 0, 1) := by decide +kernel
theorem dX6_just_1 : decode cX6_just 1 = .ok (.getfield 10, 3) := by decide +kernel
theorem dX6_just_4 : decode cX6_just 4 = .ok (.iload_n 1, 1) := by decide +kernel
theorem dX6_just_5 : decode cX6_just 5 = .ok (.invokevirtual 111, 3) := by decide +kernel
theorem dX6_just_8 : decode cX6_just 8 = .ok (.ifCond .eq 33, 3) := by decide +kernel
theorem dX6_just_11 : decode cX6_just 11 = .ok (.aload_n 0, 1) := by decide +kernel
theorem dX6_just_12 : decode cX6_just 12 = .ok (.getfield 10, 3) := by decide +kernel
theorem dX6_just_15 : decode cX6_just 15 = .ok (.iload_n 2, 1) := by decide +kernel
theorem dX6_just_16 : decode cX6_just 16 = .ok (.invokevirtual 195, 3) := by decide +kernel
theorem dX6_just_19 : decode cX6_just 19 = .ok (.ifCond .eq 22, 3) := by decide +kernel
theorem dX6_just_22 : decode cX6_just 22 = .ok (.aload_n 0, 1) := by decide +kernel
theorem dX6_just_23 : decode cX6_just 23 = .ok (.getfield 10, 3) := by decide +kernel
theorem dX6_just_26 : decode cX6_just 26 = .ok (.iload_n 1, 1) := by decide +kernel
theorem dX6_just_27 : decode cX6_just 27 = .ok (.iload_n 2, 1) := by decide +kernel
theorem dX6_just_28 : decode cX6_just 28 = .ok (.aload_n 0, 1) := by decide +kernel
theorem dX6_just_29 : decode cX6_just 29 = .ok (.getfield 10, 3) := by decide +kernel
theorem dX6_just_32 : decode cX6_just 32 = .ok (.invokevirtual 201, 3) := by decide +kernel
theorem dX6_just_35 : decode cX6_just 35 = .ok (.invokevirtual 198, 3) := by decide +kernel
theorem dX6_just_38 : decode cX6_just 38 = .ok (.goto 4, 3) := by decide +kernel
theorem dX6_just_41 : decode cX6_just 41 = .ok (.iconst (-1), 1) := by decide +kernel
theorem dX6_just_42 : decode cX6_just 42 = .ok (.ireturn, 1) := by decide +kernel
theorem dX6_from_0 : decode cX6_from 0 = .ok (.aload_n 0, 1) := by decide +kernel
theorem dX6_from_1 : decode cX6_from 1 = .ok (.getfield 10, 3) := by decide +kernel
theorem dX6_from_4 : decode cX6_from 4 = .ok (.iload_n 1, 1) := by decide +kernel
theorem dX6_from_5 : decode cX6_from 5 = .ok (.invokevirtual 195, 3) := by decide +kernel
theorem dX6_from_8 : decode cX6_from 8 = .ok (.ifCond .eq 10, 3) := by decide +kernel
theorem dX6_from_11 : decode cX6_from 11 = .ok (.iload_n 2, 1) := by decide +kernel
theorem dX6_from_12 : decode cX6_from 12 = .ok (.invokestatic 204, 3) := by decide +kernel
theorem dX6_from_15 : decode cX6_from 15 = .ok (.ifCond .ne 5, 3) := by decide +kernel
theorem dX6_from_18 : decode cX6_from 18 = .ok (.iconst (-1), 1) := by decide +kernel
theorem dX6_from_19 : decode cX6_from 19 = .ok (.ireturn, 1) := by decide +kernel
theorem dX6_from_20 : decode cX6_from 20 = .ok (.aload_n 0, 1) := by decide +kernel
theorem dX6_from_21 : decode cX6_from 21 = .ok (.getfield 26, 3) := by decide +kernel
theorem dX6_from_24 : decode cX6_from 24 = .ok (.sipush 1000, 3) := by decide +kernel
theorem dX6_from_27 : decode cX6_from 27 = .ok (.invokevirtual 207, 3) := by decide +kernel
theorem dX6_from_30 : decode cX6_from 30 = .ok (.iconst 0, 1) := by decide +kernel
theorem dX6_from_31 : decode cX6_from 31 = .ok (.istore_n 3, 1) := by decide +kernel
theorem dX6_from_32 : decode cX6_from 32 = .ok (.iload_n 3, 1) := by decide +kernel
theorem dX6_from_33 : decode cX6_from 33 = .ok (.aload_n 0, 1) := by decide +kernel
theorem dX6_from_34 : decode cX6_from 34 = .ok (.getfield 10, 3) := by decide +kernel
theorem dX6_from_37 : decode cX6_from 37 = .ok (.getfield 93, 3) := by decide +kernel
theorem dX6_from_40 : decode cX6_from 40 = .ok (.if_icmp .ge 38, 3) := by decide +kernel
theorem dX6_from_43 : decode cX6_from 43 = .ok (.aload_n 0, 1) := by decide +kernel
theorem dX6_from_44 : decode cX6_from 44 = .ok (.getfield 10, 3) := by decide +kernel
theorem dX6_from_47 : decode cX6_from 47 = .ok (.iload_n 3, 1) := by decide +kernel
theorem dX6_from_48 : decode cX6_from 48 = .ok (.iload_n 1, 1) := by decide +kernel
theorem dX6_from_49 : decode cX6_from 49 = .ok (.iload_n 1, 1) := by decide +kernel
theorem dX6_from_50 : decode cX6_from 50 = .ok (.invokevirtual 198, 3) := by decide +kernel
theorem dX6_from_53 : decode cX6_from 53 = .ok (.istore 4, 2) := by decide +kernel
theorem dX6_from_55 : decode cX6_from 55 = .ok (.iload 4, 2) := by decide +kernel
theorem dX6_from_57 : decode cX6_from 57 = .ok (.bipush (-4), 2) := by decide +kernel
theorem dX6_from_59 : decode cX6_from 59 = .ok (.if_icmp .eq 13, 3) := by decide +kernel
theorem dX6_from_62 : decode cX6_from 62 = .ok (.aload_n 0, 1) := by decide +kernel
theorem dX6_from_63 : decode cX6_from 63 = .ok (.getfield 26, 3) := by decide +kernel
theorem dX6_from_66 : decode cX6_from 66 = .ok (.iload_n 3, 1) := by decide +kernel
theorem dX6_from_67 : decode cX6_from 67 = .ok (.iload 4, 2) := by decide +kernel
theorem dX6_from_69 : decode cX6_from 69 = .ok (.invokevirtual 211, 3) := by decide +kernel
theorem dX6_from_72 : decode cX6_from 72 = .ok (.iinc 3 1, 3) := by decide +kernel
theorem dX6_from_75 : decode cX6_from 75 = .ok (.goto (-43), 3) := by decide +kernel
theorem dX6_from_78 : decode cX6_from 78 = .ok (.aload_n 0, 1) := by decide +kernel
theorem dX6_from_79 : decode cX6_from 79 = .ok (.getfield 26, 3) := by decide +kernel
theorem dX6_from_82 : decode cX6_from 82 = .ok (.iload_n 2, 1) := by decide +kernel
theorem dX6_from_83 : decode cX6_from 83 = .ok (.invokevirtual 215, 3) := by decide +kernel
theorem dX6_from_86 : decode cX6_from 86 = .ok (.ireturn, 1) := by decide +kernel
theorem dX6_hush_0 : decode cX6_hush 0 = .ok (.aload_n 0, 1) := by decide +kernel
theorem dX6_hush_1 : decode cX6_hush 1 = .ok (.getfield 10, 3) := by decide +kernel
theorem dX6_hush_4 : decode cX6_hush 4 = .ok (.iload_n 1, 1) := by decide +kernel
theorem dX6_hush_5 : decode cX6_hush 5 = .ok (.invokevirtual 111, 3) := by decide +kernel
theorem dX6_hush_8 : decode cX6_hush 8 = .ok (.ifCond .eq 29, 3) := by decide +kernel
theorem dX6_hush_11 : decode cX6_hush 11 = .ok (.aload_n 0, 1) := by decide +kernel
theorem dX6_hush_12 : decode cX6_hush 12 = .ok (.getfield 10, 3) := by decide +kernel
theorem dX6_hush_15 : decode cX6_hush 15 = .ok (.iload_n 2, 1) := by decide +kernel
theorem dX6_hush_16 : decode cX6_hush 16 = .ok (.invokevirtual 111, 3) := by decide +kernel
theorem dX6_hush_19 : decode cX6_hush 19 = .ok (.ifCond .eq 18, 3) := by decide +kernel
theorem dX6_hush_22 : decode cX6_hush 22 = .ok (.iload_n 3, 1) := by decide +kernel
theorem dX6_hush_23 : decode cX6_hush 23 = .ok (.invokestatic 163, 3) := by decide +kernel
theorem dX6_hush_26 : decode cX6_hush 26 = .ok (.ifCond .eq 11, 3) := by decide +kernel
theorem dX6_hush_29 : decode cX6_hush 29 = .ok (.iload 4, 2) := by decide +kernel
theorem dX6_hush_31 : decode cX6_hush 31 = .ok (.invokestatic 204, 3) := by decide +kernel
theorem dX6_hush_34 : decode cX6_hush 34 = .ok (.ifCond .ne 5, 3) := by decide +kernel
theorem dX6_hush_37 : decode cX6_hush 37 = .ok (.iconst (-1), 1) := by decide +kernel
theorem dX6_hush_38 : decode cX6_hush 38 = .ok (.ireturn, 1) := by decide +kernel
theorem dX6_hush_39 : decode cX6_hush 39 = .ok (.aload_n 0, 1) := by decide +kernel
theorem dX6_hush_40 : decode cX6_hush 40 = .ok (.getfield 16, 3) := by decide +kernel
theorem dX6_hush_43 : decode cX6_hush 43 = .ok (.aload_n 0, 1) := by decide +kernel
theorem dX6_hush_44 : decode cX6_hush 44 = .ok (.getfield 10, 3) := by decide +kernel
theorem dX6_hush_47 : decode cX6_hush 47 = .ok (.invokevirtual 85, 3) := by decide +kernel
theorem dX6_hush_50 : decode cX6_hush 50 = .ok (.aload_n 0, 1) := by decide +kernel
theorem dX6_hush_51 : decode cX6_hush 51 = .ok (.getfield 26, 3) := by decide +kernel
theorem dX6_hush_54 : decode cX6_hush 54 = .ok (.sipush 1000, 3) := by decide +kernel
theorem dX6_hush_57 : decode cX6_hush 57 = .ok (.invokevirtual 207, 3) := by decide +kernel
theorem dX6_hush_60 : decode cX6_hush 60 = .ok (.iconst 0, 1) := by decide +kernel
theorem dX6_hush_61 : decode cX6_hush 61 = .ok (.istore 5, 2) := by decide +kernel
theorem dX6_hush_63 : decode cX6_hush 63 = .ok (.iload 5, 2) := by decide +kernel
theorem dX6_hush_65 : decode cX6_hush 65 = .ok (.iconst 1, 1) := by decide +kernel
theorem dX6_hush_66 : decode cX6_hush 66 = .ok (.aload_n 0, 1) := by decide +kernel
theorem dX6_hush_67 : decode cX6_hush 67 = .ok (.getfield 10, 3) := by decide +kernel
theorem dX6_hush_70 : decode cX6_hush 70 = .ok (.getfield 96, 3) := by decide +kernel
theorem dX6_hush_73 : decode cX6_hush 73 = .ok (.ishl, 1) := by decide +kernel
theorem dX6_hush_74 : decode cX6_hush 74 = .ok (.if_icmp .ge 85, 3) := by decide +kernel
theorem dX6_hush_77 : decode cX6_hush 77 = .ok (.iload 5, 2) := by decide +kernel
theorem dX6_hush_79 : decode cX6_hush 79 = .ok (.invokestatic 218, 3) := by decide +kernel
theorem dX6_hush_82 : decode cX6_hush 82 = .ok (.istore 6, 2) := by decide +kernel
theorem dX6_hush_84 : decode cX6_hush 84 = .ok (.iload 5, 2) := by decide +kernel
theorem dX6_hush_86 : decode cX6_hush 86 = .ok (.aload_n 0, 1) := by decide +kernel
theorem dX6_hush_87 : decode cX6_hush 87 = .ok (.getfield 10, 3) := by decide +kernel
theorem dX6_hush_90 : decode cX6_hush 90 = .ok (.getfield 105, 3) := by decide +kernel
theorem dX6_hush_93 : decode cX6_hush 93 = .ok (.iand, 1) := by decide +kernel
theorem dX6_hush_94 : decode cX6_hush 94 = .ok (.ifCond .ne 59, 3) := by decide +kernel
theorem dX6_hush_97 : decode cX6_hush 97 = .ok (.iload 6, 2) := by decide +kernel
theorem dX6_hush_99 : decode cX6_hush 99 = .ok (.aload_n 0, 1) := by decide +kernel
theorem dX6_hush_100 : decode cX6_hush 100 = .ok (.getfield 26, 3) := by decide +kernel
theorem dX6_hush_103 : decode cX6_hush 103 = .ok (.getfield 223, 3) := by decide +kernel
theorem dX6_hush_106 : decode cX6_hush 106 = .ok (.if_icmp .ge 47, 3) := by decide +kernel
theorem dX6_hush_109 : decode cX6_hush 109 = .ok (.aload_n 0, 1) := by decide +kernel
theorem dX6_hush_110 : decode cX6_hush 110 = .ok (.getfield 16, 3) := by decide +kernel
theorem dX6_hush_113 : decode cX6_hush 113 = .ok (.aload_n 0, 1) := by decide +kernel
theorem dX6_hush_114 : decode cX6_hush 114 = .ok (.getfield 10, 3) := by decide +kernel
theorem dX6_hush_117 : decode cX6_hush 117 = .ok (.getfield 105, 3) := by decide +kernel
theorem dX6_hush_120 : decode cX6_hush 120 = .ok (.iload 5, 2) := by decide +kernel
theorem dX6_hush_122 : decode cX6_hush 122 = .ok (.ior, 1) := by decide +kernel
theorem dX6_hush_123 : decode cX6_hush 123 = .ok (.putfield 105, 3) := by decide +kernel
theorem dX6_hush_126 : decode cX6_hush 126 = .ok (.aload_n 0, 1) := by decide +kernel
theorem dX6_hush_127 : decode cX6_hush 127 = .ok (.getfield 16, 3) := by decide +kernel
theorem dX6_hush_130 : decode cX6_hush 130 = .ok (.iload_n 1, 1) := by decide +kernel
theorem dX6_hush_131 : decode cX6_hush 131 = .ok (.iload_n 3, 1) := by decide +kernel
theorem dX6_hush_132 : decode cX6_hush 132 = .ok (.invokevirtual 155, 3) := by decide +kernel
theorem dX6_hush_135 : decode cX6_hush 135 = .ok (.iconst 1, 1) := by decide +kernel
theorem dX6_hush_136 : decode cX6_hush 136 = .ok (.iload_n 2, 1) := by decide +kernel
theorem dX6_hush_137 : decode cX6_hush 137 = .ok (.ishl, 1) := by decide +kernel
theorem dX6_hush_138 : decode cX6_hush 138 = .ok (.iand, 1) := by decide +kernel
theorem dX6_hush_139 : decode cX6_hush 139 = .ok (.ifCond .ne 14, 3) := by decide +kernel
theorem dX6_hush_142 : decode cX6_hush 142 = .ok (.aload_n 0, 1) := by decide +kernel
theorem dX6_hush_143 : decode cX6_hush 143 = .ok (.getfield 26, 3) := by decide +kernel
theorem dX6_hush_146 : decode cX6_hush 146 = .ok (.iload 5, 2) := by decide +kernel
theorem dX6_hush_148 : decode cX6_hush 148 = .ok (.iload 6, 2) := by decide +kernel
theorem dX6_hush_150 : decode cX6_hush 150 = .ok (.invokevirtual 211, 3) := by decide +kernel
theorem dX6_hush_153 : decode cX6_hush 153 = .ok (.iinc 5 1, 3) := by decide +kernel
theorem dX6_hush_156 : decode cX6_hush 156 = .ok (.goto (-93), 3) := by decide +kernel
theorem dX6_hush_159 : decode cX6_hush 159 = .ok (.aload_n 0, 1) := by decide +kernel
theorem dX6_hush_160 : decode cX6_hush 160 = .ok (.getfield 26, 3) := by decide +kernel
theorem dX6_hush_163 : decode cX6_hush 163 = .ok (.iconst 1, 1) := by decide +kernel
theorem dX6_hush_164 : decode cX6_hush 164 = .ok (.iload 4, 2) := by decide +kernel
theorem dX6_hush_166 : decode cX6_hush 166 = .ok (.isub, 1) := by decide +kernel
theorem dX6_hush_167 : decode cX6_hush 167 = .ok (.invokevirtual 215, 3) := by decide +kernel
theorem dX6_hush_170 : decode cX6_hush 170 = .ok (.ireturn, 1) := by decide +kernel
theorem dX6_join_0 : decode cX6_join 0 = .ok (.aload_n 0, 1) := by decide +kernel
theorem dX6_join_1 : decode cX6_join 1 = .ok (.getfield 10, 3) := by decide +kernel
theorem dX6_join_4 : decode cX6_join 4 = .ok (.iload_n 1, 1) := by decide +kernel
theorem dX6_join_5 : decode cX6_join 5 = .ok (.invokevirtual 111, 3) := by decide +kernel
theorem dX6_join_8 : decode cX6_join 8 = .ok (.ifCond .eq 25, 3) := by decide +kernel
theorem dX6_join_11 : decode cX6_join 11 = .ok (.iload_n 2, 1) := by decide +kernel
theorem dX6_join_12 : decode cX6_join 12 = .ok (.invokestatic 163, 3) := by decide +kernel
theorem dX6_join_15 : decode cX6_join 15 = .ok (.ifCond .eq 18, 3) := by decide +kernel
theorem dX6_join_18 : decode cX6_join 18 = .ok (.iload_n 3, 1) := by decide +kernel
theorem dX6_join_19 : decode cX6_join 19 = .ok (.invokestatic 174, 3) := by decide +kernel
theorem dX6_join_22 : decode cX6_join 22 = .ok (.ifCond .eq 11, 3) := by decide +kernel
theorem dX6_join_25 : decode cX6_join 25 = .ok (.iload 4, 2) := by decide +kernel
theorem dX6_join_27 : decode cX6_join 27 = .ok (.invokestatic 204, 3) := by decide +kernel
theorem dX6_join_30 : decode cX6_join 30 = .ok (.ifCond .ne 5, 3) := by decide +kernel
theorem dX6_join_33 : decode cX6_join 33 = .ok (.iconst (-1), 1) := by decide +kernel
theorem dX6_join_34 : decode cX6_join 34 = .ok (.ireturn, 1) := by decide +kernel
theorem dX6_join_35 : decode cX6_join 35 = .ok (.aload_n 0, 1) := by decide +kernel
theorem dX6_join_36 : decode cX6_join 36 = .ok (.getfield 10, 3) := by decide +kernel
theorem dX6_join_39 : decode cX6_join 39 = .ok (.getfield 96, 3) := by decide +kernel
theorem dX6_join_42 : decode cX6_join 42 = .ok (.bipush 9, 2) := by decide +kernel
theorem dX6_join_44 : decode cX6_join 44 = .ok (.if_icmp .ne 6, 3) := by decide +kernel
theorem dX6_join_47 : decode cX6_join 47 = .ok (.bipush (-3), 2) := by decide +kernel
theorem dX6_join_49 : decode cX6_join 49 = .ok (.ireturn, 1) := by decide +kernel
theorem dX6_join_50 : decode cX6_join 50 = .ok (.aload_n 0, 1) := by decide +kernel
theorem dX6_join_51 : decode cX6_join 51 = .ok (.getfield 26, 3) := by decide +kernel
theorem dX6_join_54 : decode cX6_join 54 = .ok (.aload_n 0, 1) := by decide +kernel
theorem dX6_join_55 : decode cX6_join 55 = .ok (.getfield 10, 3) := by decide +kernel
theorem dX6_join_58 : decode cX6_join 58 = .ok (.getfield 93, 3) := by decide +kernel
theorem dX6_join_61 : decode cX6_join 61 = .ok (.aload_n 0, 1) := by decide +kernel
theorem dX6_join_62 : decode cX6_join 62 = .ok (.getfield 10, 3) := by decide +kernel
theorem dX6_join_65 : decode cX6_join 65 = .ok (.iload_n 1, 1) := by decide +kernel
theorem dX6_join_66 : decode cX6_join 66 = .ok (.iload_n 2, 1) := by decide +kernel
theorem dX6_join_67 : decode cX6_join 67 = .ok (.invokevirtual 155, 3) := by decide +kernel
theorem dX6_join_70 : decode cX6_join 70 = .ok (.invokestatic 218, 3) := by decide +kernel
theorem dX6_join_73 : decode cX6_join 73 = .ok (.isub, 1) := by decide +kernel
theorem dX6_join_74 : decode cX6_join 74 = .ok (.invokevirtual 207, 3) := by decide +kernel
theorem dX6_join_77 : decode cX6_join 77 = .ok (.iconst 0, 1) := by decide +kernel
theorem dX6_join_78 : decode cX6_join 78 = .ok (.istore 5, 2) := by decide +kernel
theorem dX6_join_80 : decode cX6_join 80 = .ok (.iload 5, 2) := by decide +kernel
theorem dX6_join_82 : decode cX6_join 82 = .ok (.aload_n 0, 1) := by decide +kernel
theorem dX6_join_83 : decode cX6_join 83 = .ok (.getfield 10, 3) := by decide +kernel
theorem dX6_join_86 : decode cX6_join 86 = .ok (.getfield 93, 3) := by decide +kernel
theorem dX6_join_89 : decode cX6_join 89 = .ok (.if_icmp .ge 96, 3) := by decide +kernel
theorem dX6_join_92 : decode cX6_join 92 = .ok (.iload 5, 2) := by decide +kernel
theorem dX6_join_94 : decode cX6_join 94 = .ok (.iconst 1, 1) := by decide +kernel
theorem dX6_join_95 : decode cX6_join 95 = .ok (.iadd, 1) := by decide +kernel
theorem dX6_join_96 : decode cX6_join 96 = .ok (.istore 6, 2) := by decide +kernel
theorem dX6_join_98 : decode cX6_join 98 = .ok (.iload 6, 2) := by decide +kernel
theorem dX6_join_100 : decode cX6_join 100 = .ok (.aload_n 0, 1) := by decide +kernel
theorem dX6_join_101 : decode cX6_join 101 = .ok (.getfield 10, 3) := by decide +kernel
theorem dX6_join_104 : decode cX6_join 104 = .ok (.getfield 93, 3) := by decide +kernel
theorem dX6_join_107 : decode cX6_join 107 = .ok (.if_icmp .ge 72, 3) := by decide +kernel
theorem dX6_join_110 : decode cX6_join 110 = .ok (.aload_n 0, 1) := by decide +kernel
theorem dX6_join_111 : decode cX6_join 111 = .ok (.getfield 16, 3) := by decide +kernel
theorem dX6_join_114 : decode cX6_join 114 = .ok (.aload_n 0, 1) := by decide +kernel
theorem dX6_join_115 : decode cX6_join 115 = .ok (.getfield 10, 3) := by decide +kernel
theorem dX6_join_118 : decode cX6_join 118 = .ok (.invokevirtual 85, 3) := by decide +kernel
theorem dX6_join_121 : decode cX6_join 121 = .ok (.aload_n 0, 1) := by decide +kernel
theorem dX6_join_122 : decode cX6_join 122 = .ok (.getfield 16, 3) := by decide +kernel
theorem dX6_join_125 : decode cX6_join 125 = .ok (.iload 5, 2) := by decide +kernel
theorem dX6_join_127 : decode cX6_join 127 = .ok (.iload 6, 2) := by decide +kernel
theorem dX6_join_129 : decode cX6_join 129 = .ok (.iload_n 3, 1) := by decide +kernel
theorem dX6_join_130 : decode cX6_join 130 = .ok (.invokevirtual 177, 3) := by decide +kernel
theorem dX6_join_133 : decode cX6_join 133 = .ok (.pop, 1) := by decide +kernel
theorem dX6_join_134 : decode cX6_join 134 = .ok (.aload_n 0, 1) := by decide +kernel
theorem dX6_join_135 : decode cX6_join 135 = .ok (.getfield 16, 3) := by decide +kernel
theorem dX6_join_138 : decode cX6_join 138 = .ok (.iload_n 1, 1) := by decide +kernel
theorem dX6_join_139 : decode cX6_join 139 = .ok (.iload_n 2, 1) := by decide +kernel
theorem dX6_join_140 : decode cX6_join 140 = .ok (.invokevirtual 155, 3) := by decide +kernel
theorem dX6_join_143 : decode cX6_join 143 = .ok (.invokestatic 218, 3) := by decide +kernel
theorem dX6_join_146 : decode cX6_join 146 = .ok (.istore 7, 2) := by decide +kernel
theorem dX6_join_148 : decode cX6_join 148 = .ok (.aload_n 0, 1) := by decide +kernel
theorem dX6_join_149 : decode cX6_join 149 = .ok (.getfield 26, 3) := by decide +kernel
theorem dX6_join_152 : decode cX6_join 152 = .ok (.bipush 10, 2) := by decide +kernel
theorem dX6_join_154 : decode cX6_join 154 = .ok (.iload 5, 2) := by decide +kernel
theorem dX6_join_156 : decode cX6_join 156 = .ok (.imul, 1) := by decide +kernel
theorem dX6_join_157 : decode cX6_join 157 = .ok (.iload 6, 2) := by decide +kernel
theorem dX6_join_159 : decode cX6_join 159 = .ok (.iadd, 1) := by decide +kernel
theorem dX6_join_160 : decode cX6_join 160 = .ok (.aload_n 0, 1) := by decide +kernel
theorem dX6_join_161 : decode cX6_join 161 = .ok (.getfield 10, 3) := by decide +kernel
theorem dX6_join_164 : decode cX6_join 164 = .ok (.getfield 93, 3) := by decide +kernel
theorem dX6_join_167 : decode cX6_join 167 = .ok (.iload 7, 2) := by decide +kernel
theorem dX6_join_169 : decode cX6_join 169 = .ok (.isub, 1) := by decide +kernel
theorem dX6_join_170 : decode cX6_join 170 = .ok (.invokevirtual 211, 3) := by decide +kernel
theorem dX6_join_173 : decode cX6_join 173 = .ok (.iinc 6 1, 3) := by decide +kernel
theorem dX6_join_176 : decode cX6_join 176 = .ok (.goto (-78), 3) := by decide +kernel
theorem dX6_join_179 : decode cX6_join 179 = .ok (.iinc 5 1, 3) := by decide +kernel
theorem dX6_join_182 : decode cX6_join 182 = .ok (.goto (-102), 3) := by decide +kernel
theorem dX6_join_185 : decode cX6_join 185 = .ok (.iload 4, 2) := by decide +kernel
theorem dX6_join_187 : decode cX6_join 187 = .ok (.ifCond .eq 13, 3) := by decide +kernel
theorem dX6_join_190 : decode cX6_join 190 = .ok (.aload_n 0, 1) := by decide +kernel
theorem dX6_join_191 : decode cX6_join 191 = .ok (.getfield 26, 3) := by decide +kernel
theorem dX6_join_194 : decode cX6_join 194 = .ok (.invokevirtual 226, 3) := by decide +kernel
theorem dX6_join_197 : decode cX6_join 197 = .ok (.ifCond .eq 14, 3) := by decide +kernel
theorem dX6_join_200 : decode cX6_join 200 = .ok (.aload_n 0, 1) := by decide +kernel
theorem dX6_join_201 : decode cX6_join 201 = .ok (.getfield 26, 3) := by decide +kernel
theorem dX6_join_204 : decode cX6_join 204 = .ok (.iconst 0, 1) := by decide +kernel
theorem dX6_join_205 : decode cX6_join 205 = .ok (.invokevirtual 215, 3) := by decide +kernel
theorem dX6_join_208 : decode cX6_join 208 = .ok (.goto 18, 3) := by decide +kernel
theorem dX6_join_211 : decode cX6_join 211 = .ok (.aload_n 0, 1) := by decide +kernel
theorem dX6_join_212 : decode cX6_join 212 = .ok (.getfield 10, 3) := by decide +kernel
theorem dX6_join_215 : decode cX6_join 215 = .ok (.getfield 93, 3) := by decide +kernel
theorem dX6_join_218 : decode cX6_join 218 = .ok (.aload_n 0, 1) := by decide +kernel
theorem dX6_join_219 : decode cX6_join 219 = .ok (.getfield 26, 3) := by decide +kernel
theorem dX6_join_222 : decode cX6_join 222 = .ok (.getfield 223, 3) := by decide +kernel
theorem dX6_join_225 : decode cX6_join 225 = .ok (.isub, 1) := by decide +kernel
theorem dX6_join_226 : decode cX6_join 226 = .ok (.ireturn, 1) := by decide +kernel
theorem dX6_dear_0 : decode cX6_dear 0 = .ok (.iload_n 1, 1) := by decide +kernel
theorem dX6_dear_1 : decode cX6_dear 1 = .ok (.invokestatic 204, 3) := by decide +kernel
theorem dX6_dear_4 : decode cX6_dear 4 = .ok (.ifCond .ne 5, 3) := by decide +kernel
theorem dX6_dear_7 : decode cX6_dear 7 = .ok (.iconst (-1), 1) := by decide +kernel
theorem dX6_dear_8 : decode cX6_dear 8 = .ok (.ireturn, 1) := by decide +kernel
theorem dX6_dear_9 : decode cX6_dear 9 = .ok (.aload_n 0, 1) := by decide +kernel
theorem dX6_dear_10 : decode cX6_dear 10 = .ok (.getfield 16, 3) := by decide +kernel
theorem dX6_dear_13 : decode cX6_dear 13 = .ok (.aload_n 0, 1) := by decide +kernel
theorem dX6_dear_14 : decode cX6_dear 14 = .ok (.getfield 10, 3) := by decide +kernel
theorem dX6_dear_17 : decode cX6_dear 17 = .ok (.invokevirtual 85, 3) := by decide +kernel
theorem dX6_dear_20 : decode cX6_dear 20 = .ok (.aload_n 0, 1) := by decide +kernel
theorem dX6_dear_21 : decode cX6_dear 21 = .ok (.getfield 26, 3) := by decide +kernel
theorem dX6_dear_24 : decode cX6_dear 24 = .ok (.aload_n 0, 1) := by decide +kernel
theorem dX6_dear_25 : decode cX6_dear 25 = .ok (.getfield 10, 3) := by decide +kernel
theorem dX6_dear_28 : decode cX6_dear 28 = .ok (.invokevirtual 230, 3) := by decide +kernel
theorem dX6_dear_31 : decode cX6_dear 31 = .ok (.invokevirtual 207, 3) := by decide +kernel
theorem dX6_dear_34 : decode cX6_dear 34 = .ok (.iconst 0, 1) := by decide +kernel
theorem dX6_dear_35 : decode cX6_dear 35 = .ok (.istore_n 2, 1) := by decide +kernel
theorem dX6_dear_36 : decode cX6_dear 36 = .ok (.iload_n 2, 1) := by decide +kernel
theorem dX6_dear_37 : decode cX6_dear 37 = .ok (.aload_n 0, 1) := by decide +kernel
theorem dX6_dear_38 : decode cX6_dear 38 = .ok (.getfield 10, 3) := by decide +kernel
theorem dX6_dear_41 : decode cX6_dear 41 = .ok (.getfield 96, 3) := by decide +kernel
theorem dX6_dear_44 : decode cX6_dear 44 = .ok (.if_icmp .ge 53, 3) := by decide +kernel
theorem dX6_dear_47 : decode cX6_dear 47 = .ok (.aload_n 0, 1) := by decide +kernel
theorem dX6_dear_48 : decode cX6_dear 48 = .ok (.getfield 10, 3) := by decide +kernel
theorem dX6_dear_51 : decode cX6_dear 51 = .ok (.iload_n 2, 1) := by decide +kernel
theorem dX6_dear_52 : decode cX6_dear 52 = .ok (.invokevirtual 140, 3) := by decide +kernel
theorem dX6_dear_55 : decode cX6_dear 55 = .ok (.ifCond .eq 36, 3) := by decide +kernel
theorem dX6_dear_58 : decode cX6_dear 58 = .ok (.aload_n 0, 1) := by decide +kernel
theorem dX6_dear_59 : decode cX6_dear 59 = .ok (.getfield 16, 3) := by decide +kernel
theorem dX6_dear_62 : decode cX6_dear 62 = .ok (.aload_n 0, 1) := by decide +kernel
theorem dX6_dear_63 : decode cX6_dear 63 = .ok (.getfield 10, 3) := by decide +kernel
theorem dX6_dear_66 : decode cX6_dear 66 = .ok (.getfield 105, 3) := by decide +kernel
theorem dX6_dear_69 : decode cX6_dear 69 = .ok (.iconst 1, 1) := by decide +kernel
theorem dX6_dear_70 : decode cX6_dear 70 = .ok (.iload_n 2, 1) := by decide +kernel
theorem dX6_dear_71 : decode cX6_dear 71 = .ok (.ishl, 1) := by decide +kernel
theorem dX6_dear_72 : decode cX6_dear 72 = .ok (.ior, 1) := by decide +kernel
theorem dX6_dear_73 : decode cX6_dear 73 = .ok (.putfield 105, 3) := by decide +kernel
theorem dX6_dear_76 : decode cX6_dear 76 = .ok (.aload_n 0, 1) := by decide +kernel
theorem dX6_dear_77 : decode cX6_dear 77 = .ok (.getfield 26, 3) := by decide +kernel
theorem dX6_dear_80 : decode cX6_dear 80 = .ok (.iload_n 2, 1) := by decide +kernel
theorem dX6_dear_81 : decode cX6_dear 81 = .ok (.aload_n 0, 1) := by decide +kernel
theorem dX6_dear_82 : decode cX6_dear 82 = .ok (.getfield 16, 3) := by decide +kernel
theorem dX6_dear_85 : decode cX6_dear 85 = .ok (.invokevirtual 230, 3) := by decide +kernel
theorem dX6_dear_88 : decode cX6_dear 88 = .ok (.invokevirtual 211, 3) := by decide +kernel
theorem dX6_dear_91 : decode cX6_dear 91 = .ok (.iinc 2 1, 3) := by decide +kernel
theorem dX6_dear_94 : decode cX6_dear 94 = .ok (.goto (-58), 3) := by decide +kernel
theorem dX6_dear_97 : decode cX6_dear 97 = .ok (.aload_n 0, 1) := by decide +kernel
theorem dX6_dear_98 : decode cX6_dear 98 = .ok (.getfield 26, 3) := by decide +kernel
theorem dX6_dear_101 : decode cX6_dear 101 = .ok (.iload_n 1, 1) := by decide +kernel
theorem dX6_dear_102 : decode cX6_dear 102 = .ok (.invokevirtual 215, 3) := by decide +kernel
theorem dX6_dear_105 : decode cX6_dear 105 = .ok (.ireturn, 1) := by decide +kernel
theorem dX6_hour_0 : decode cX6_hour 0 = .ok (.aload_n 0, 1) := by decide +kernel
theorem dX6_hour_1 : decode cX6_hour 1 = .ok (.getfield 10, 3) := by decide +kernel
theorem dX6_hour_4 : decode cX6_hour 4 = .ok (.iload_n 1, 1) := by decide +kernel
theorem dX6_hour_5 : decode cX6_hour 5 = .ok (.invokevirtual 143, 3) := by decide +kernel
theorem dX6_hour_8 : decode cX6_hour 8 = .ok (.ifCond .eq 10, 3) := by decide +kernel
theorem dX6_hour_11 : decode cX6_hour 11 = .ok (.iload_n 2, 1) := by decide +kernel
theorem dX6_hour_12 : decode cX6_hour 12 = .ok (.invokestatic 204, 3) := by decide +kernel
theorem dX6_hour_15 : decode cX6_hour 15 = .ok (.ifCond .ne 5, 3) := by decide +kernel
theorem dX6_hour_18 : decode cX6_hour 18 = .ok (.iconst (-1), 1) := by decide +kernel
theorem dX6_hour_19 : decode cX6_hour 19 = .ok (.ireturn, 1) := by decide +kernel
theorem dX6_hour_20 : decode cX6_hour 20 = .ok (.aload_n 0, 1) := by decide +kernel
theorem dX6_hour_21 : decode cX6_hour 21 = .ok (.getfield 16, 3) := by decide +kernel
theorem dX6_hour_24 : decode cX6_hour 24 = .ok (.aload_n 0, 1) := by decide +kernel
theorem dX6_hour_25 : decode cX6_hour 25 = .ok (.getfield 10, 3) := by decide +kernel
theorem dX6_hour_28 : decode cX6_hour 28 = .ok (.invokevirtual 85, 3) := by decide +kernel
theorem dX6_hour_31 : decode cX6_hour 31 = .ok (.aload_n 0, 1) := by decide +kernel
theorem dX6_hour_32 : decode cX6_hour 32 = .ok (.getfield 26, 3) := by decide +kernel
theorem dX6_hour_35 : decode cX6_hour 35 = .ok (.sipush 1000, 3) := by decide +kernel
theorem dX6_hour_38 : decode cX6_hour 38 = .ok (.invokevirtual 207, 3) := by decide +kernel
theorem dX6_hour_41 : decode cX6_hour 41 = .ok (.iconst 0, 1) := by decide +kernel
theorem dX6_hour_42 : decode cX6_hour 42 = .ok (.istore_n 3, 1) := by decide +kernel
theorem dX6_hour_43 : decode cX6_hour 43 = .ok (.iload_n 3, 1) := by decide +kernel
theorem dX6_hour_44 : decode cX6_hour 44 = .ok (.bipush 23, 2) := by decide +kernel
theorem dX6_hour_46 : decode cX6_hour 46 = .ok (.if_icmp .gt 34, 3) := by decide +kernel
theorem dX6_hour_49 : decode cX6_hour 49 = .ok (.aload_n 0, 1) := by decide +kernel
theorem dX6_hour_50 : decode cX6_hour 50 = .ok (.getfield 16, 3) := by decide +kernel
theorem dX6_hour_53 : decode cX6_hour 53 = .ok (.getfield 146, 3) := by decide +kernel
theorem dX6_hour_56 : decode cX6_hour 56 = .ok (.iload_n 1, 1) := by decide +kernel
theorem dX6_hour_57 : decode cX6_hour 57 = .ok (.iload_n 3, 1) := by decide +kernel
theorem dX6_hour_58 : decode cX6_hour 58 = .ok (.iastore, 1) := by decide +kernel
theorem dX6_hour_59 : decode cX6_hour 59 = .ok (.aload_n 0, 1) := by decide +kernel
theorem dX6_hour_60 : decode cX6_hour 60 = .ok (.getfield 26, 3) := by decide +kernel
theorem dX6_hour_63 : decode cX6_hour 63 = .ok (.iload_n 3, 1) := by decide +kernel
theorem dX6_hour_64 : decode cX6_hour 64 = .ok (.aload_n 0, 1) := by decide +kernel
theorem dX6_hour_65 : decode cX6_hour 65 = .ok (.getfield 16, 3) := by decide +kernel
theorem dX6_hour_68 : decode cX6_hour 68 = .ok (.invokevirtual 108, 3) := by decide +kernel
theorem dX6_hour_71 : decode cX6_hour 71 = .ok (.invokevirtual 211, 3) := by decide +kernel
theorem dX6_hour_74 : decode cX6_hour 74 = .ok (.iinc 3 1, 3) := by decide +kernel
theorem dX6_hour_77 : decode cX6_hour 77 = .ok (.goto (-34), 3) := by decide +kernel
theorem dX6_hour_80 : decode cX6_hour 80 = .ok (.aload_n 0, 1) := by decide +kernel
theorem dX6_hour_81 : decode cX6_hour 81 = .ok (.getfield 26, 3) := by decide +kernel
theorem dX6_hour_84 : decode cX6_hour 84 = .ok (.iload_n 2, 1) := by decide +kernel
theorem dX6_hour_85 : decode cX6_hour 85 = .ok (.invokevirtual 215, 3) := by decide +kernel
theorem dX6_hour_88 : decode cX6_hour 88 = .ok (.ireturn, 1) := by decide +kernel
theorem dX6_kind_0 : decode cX6_kind 0 = .ok (.aload_n 0, 1) := by decide +kernel
theorem dX6_kind_1 : decode cX6_kind 1 = .ok (.getfield 10, 3) := by decide +kernel
theorem dX6_kind_4 : decode cX6_kind 4 = .ok (.iload_n 1, 1) := by decide +kernel
theorem dX6_kind_5 : decode cX6_kind 5 = .ok (.invokevirtual 111, 3) := by decide +kernel
theorem dX6_kind_8 : decode cX6_kind 8 = .ok (.ifCond .eq 10, 3) := by decide +kernel
theorem dX6_kind_11 : decode cX6_kind 11 = .ok (.iload_n 2, 1) := by decide +kernel
theorem dX6_kind_12 : decode cX6_kind 12 = .ok (.invokestatic 204, 3) := by decide +kernel
theorem dX6_kind_15 : decode cX6_kind 15 = .ok (.ifCond .ne 5, 3) := by decide +kernel
theorem dX6_kind_18 : decode cX6_kind 18 = .ok (.iconst (-1), 1) := by decide +kernel
theorem dX6_kind_19 : decode cX6_kind 19 = .ok (.ireturn, 1) := by decide +kernel
theorem dX6_kind_20 : decode cX6_kind 20 = .ok (.aload_n 0, 1) := by decide +kernel
theorem dX6_kind_21 : decode cX6_kind 21 = .ok (.getfield 16, 3) := by decide +kernel
theorem dX6_kind_24 : decode cX6_kind 24 = .ok (.aload_n 0, 1) := by decide +kernel
theorem dX6_kind_25 : decode cX6_kind 25 = .ok (.getfield 10, 3) := by decide +kernel
theorem dX6_kind_28 : decode cX6_kind 28 = .ok (.invokevirtual 85, 3) := by decide +kernel
theorem dX6_kind_31 : decode cX6_kind 31 = .ok (.aload_n 0, 1) := by decide +kernel
theorem dX6_kind_32 : decode cX6_kind 32 = .ok (.getfield 26, 3) := by decide +kernel
theorem dX6_kind_35 : decode cX6_kind 35 = .ok (.sipush 1000, 3) := by decide +kernel
theorem dX6_kind_38 : decode cX6_kind 38 = .ok (.invokevirtual 207, 3) := by decide +kernel
theorem dX6_kind_41 : decode cX6_kind 41 = .ok (.iconst 0, 1) := by decide +kernel
theorem dX6_kind_42 : decode cX6_kind 42 = .ok (.istore_n 3, 1) := by decide +kernel
theorem dX6_kind_43 : decode cX6_kind 43 = .ok (.iload_n 3, 1) := by decide +kernel
theorem dX6_kind_44 : decode cX6_kind 44 = .ok (.iconst 3, 1) := by decide +kernel
theorem dX6_kind_45 : decode cX6_kind 45 = .ok (.if_icmp .gt 34, 3) := by decide +kernel
theorem dX6_kind_48 : decode cX6_kind 48 = .ok (.aload_n 0, 1) := by decide +kernel
theorem dX6_kind_49 : decode cX6_kind 49 = .ok (.getfield 16, 3) := by decide +kernel
theorem dX6_kind_52 : decode cX6_kind 52 = .ok (.getfield 115, 3) := by decide +kernel
theorem dX6_kind_55 : decode cX6_kind 55 = .ok (.iload_n 1, 1) := by decide +kernel
theorem dX6_kind_56 : decode cX6_kind 56 = .ok (.iload_n 3, 1) := by decide +kernel
theorem dX6_kind_57 : decode cX6_kind 57 = .ok (.iastore, 1) := by decide +kernel
theorem dX6_kind_58 : decode cX6_kind 58 = .ok (.aload_n 0, 1) := by decide +kernel
theorem dX6_kind_59 : decode cX6_kind 59 = .ok (.getfield 26, 3) := by decide +kernel
theorem dX6_kind_62 : decode cX6_kind 62 = .ok (.iload_n 3, 1) := by decide +kernel
theorem dX6_kind_63 : decode cX6_kind 63 = .ok (.aload_n 0, 1) := by decide +kernel
theorem dX6_kind_64 : decode cX6_kind 64 = .ok (.getfield 16, 3) := by decide +kernel
theorem dX6_kind_67 : decode cX6_kind 67 = .ok (.invokevirtual 108, 3) := by decide +kernel
theorem dX6_kind_70 : decode cX6_kind 70 = .ok (.invokevirtual 211, 3) := by decide +kernel
theorem dX6_kind_73 : decode cX6_kind 73 = .ok (.iinc 3 1, 3) := by decide +kernel
theorem dX6_kind_76 : decode cX6_kind 76 = .ok (.goto (-33), 3) := by decide +kernel
theorem dX6_kind_79 : decode cX6_kind 79 = .ok (.aload_n 0, 1) := by decide +kernel
theorem dX6_kind_80 : decode cX6_kind 80 = .ok (.getfield 26, 3) := by decide +kernel
theorem dX6_kind_83 : decode cX6_kind 83 = .ok (.iload_n 2, 1) := by decide +kernel
theorem dX6_kind_84 : decode cX6_kind 84 = .ok (.invokevirtual 215, 3) := by decide +kernel
theorem dX6_kind_87 : decode cX6_kind 87 = .ok (.ireturn, 1) := by decide +kernel
theorem dX6_calm_0 : decode cX6_calm 0 = .ok (.aload_n 0, 1) := by decide +kernel
theorem dX6_calm_1 : decode cX6_calm 1 = .ok (.getfield 16, 3) := by decide +kernel
theorem dX6_calm_4 : decode cX6_calm 4 = .ok (.aload_n 0, 1) := by decide +kernel
theorem dX6_calm_5 : decode cX6_calm 5 = .ok (.getfield 10, 3) := by decide +kernel
theorem dX6_calm_8 : decode cX6_calm 8 = .ok (.invokevirtual 85, 3) := by decide +kernel
theorem dX6_calm_11 : decode cX6_calm 11 = .ok (.iconst 0, 1) := by decide +kernel
theorem dX6_calm_12 : decode cX6_calm 12 = .ok (.istore_n 1, 1) := by decide +kernel
theorem dX6_calm_13 : decode cX6_calm 13 = .ok (.iload_n 1, 1) := by decide +kernel
theorem dX6_calm_14 : decode cX6_calm 14 = .ok (.bipush 20, 2) := by decide +kernel
theorem dX6_calm_16 : decode cX6_calm 16 = .ok (.if_icmp .gt 29, 3) := by decide +kernel
theorem dX6_calm_19 : decode cX6_calm 19 = .ok (.aload_n 0, 1) := by decide +kernel
theorem dX6_calm_20 : decode cX6_calm 20 = .ok (.getfield 16, 3) := by decide +kernel
theorem dX6_calm_23 : decode cX6_calm 23 = .ok (.iload_n 1, 1) := by decide +kernel
theorem dX6_calm_24 : decode cX6_calm 24 = .ok (.putfield 99, 3) := by decide +kernel
theorem dX6_calm_27 : decode cX6_calm 27 = .ok (.aload_n 0, 1) := by decide +kernel
theorem dX6_calm_28 : decode cX6_calm 28 = .ok (.getfield 16, 3) := by decide +kernel
theorem dX6_calm_31 : decode cX6_calm 31 = .ok (.invokevirtual 108, 3) := by decide +kernel
theorem dX6_calm_34 : decode cX6_calm 34 = .ok (.ifCond .ne 5, 3) := by decide +kernel
theorem dX6_calm_37 : decode cX6_calm 37 = .ok (.iload_n 1, 1) := by decide +kernel
theorem dX6_calm_38 : decode cX6_calm 38 = .ok (.ireturn, 1) := by decide +kernel
theorem dX6_calm_39 : decode cX6_calm 39 = .ok (.iinc 1 1, 3) := by decide +kernel
theorem dX6_calm_42 : decode cX6_calm 42 = .ok (.goto (-29), 3) := by decide +kernel
theorem dX6_calm_45 : decode cX6_calm 45 = .ok (.bipush (-4), 2) := by decide +kernel
theorem dX6_calm_47 : decode cX6_calm 47 = .ok (.ireturn, 1) := by decide +kernel
theorem dX6_luck_0 : decode cX6_luck 0 = .ok (.iload_n 1, 1) := by decide +kernel
theorem dX6_luck_1 : decode cX6_luck 1 = .ok (.invokestatic 233, 3) := by decide +kernel
theorem dX6_luck_4 : decode cX6_luck 4 = .ok (.ifCond .eq 41, 3) := by decide +kernel
theorem dX6_luck_7 : decode cX6_luck 7 = .ok (.aload_n 0, 1) := by decide +kernel
theorem dX6_luck_8 : decode cX6_luck 8 = .ok (.getfield 10, 3) := by decide +kernel
theorem dX6_luck_11 : decode cX6_luck 11 = .ok (.iload_n 2, 1) := by decide +kernel
theorem dX6_luck_12 : decode cX6_luck 12 = .ok (.invokevirtual 111, 3) := by decide +kernel
theorem dX6_luck_15 : decode cX6_luck 15 = .ok (.ifCond .eq 30, 3) := by decide +kernel
theorem dX6_luck_18 : decode cX6_luck 18 = .ok (.aload_n 0, 1) := by decide +kernel
theorem dX6_luck_19 : decode cX6_luck 19 = .ok (.getfield 10, 3) := by decide +kernel
theorem dX6_luck_22 : decode cX6_luck 22 = .ok (.iload_n 3, 1) := by decide +kernel
theorem dX6_luck_23 : decode cX6_luck 23 = .ok (.invokevirtual 111, 3) := by decide +kernel
theorem dX6_luck_26 : decode cX6_luck 26 = .ok (.ifCond .eq 19, 3) := by decide +kernel
theorem dX6_luck_29 : decode cX6_luck 29 = .ok (.iload 4, 2) := by decide +kernel
theorem dX6_luck_31 : decode cX6_luck 31 = .ok (.invokestatic 163, 3) := by decide +kernel
theorem dX6_luck_34 : decode cX6_luck 34 = .ok (.ifCond .eq 11, 3) := by decide +kernel
theorem dX6_luck_37 : decode cX6_luck 37 = .ok (.iload 5, 2) := by decide +kernel
theorem dX6_luck_39 : decode cX6_luck 39 = .ok (.invokestatic 204, 3) := by decide +kernel
theorem dX6_luck_42 : decode cX6_luck 42 = .ok (.ifCond .ne 7, 3) := by decide +kernel
theorem dX6_luck_45 : decode cX6_luck 45 = .ok (.ldc2_w 236, 3) := by decide +kernel
theorem dX6_luck_48 : decode cX6_luck 48 = .ok (.lreturn, 1) := by decide +kernel
theorem dX6_luck_49 : decode cX6_luck 49 = .ok (.aload_n 0, 1) := by decide +kernel
theorem dX6_luck_50 : decode cX6_luck 50 = .ok (.iload_n 1, 1) := by decide +kernel
theorem dX6_luck_51 : decode cX6_luck 51 = .ok (.iload_n 2, 1) := by decide +kernel
theorem dX6_luck_52 : decode cX6_luck 52 = .ok (.iload 4, 2) := by decide +kernel
theorem dX6_luck_54 : decode cX6_luck 54 = .ok (.iconst 1, 1) := by decide +kernel
theorem dX6_luck_55 : decode cX6_luck 55 = .ok (.iload_n 3, 1) := by decide +kernel
theorem dX6_luck_56 : decode cX6_luck 56 = .ok (.ishl, 1) := by decide +kernel
theorem dX6_luck_57 : decode cX6_luck 57 = .ok (.iload 5, 2) := by decide +kernel
theorem dX6_luck_59 : decode cX6_luck 59 = .ok (.invokevirtual 238, 3) := by decide +kernel
theorem dX6_luck_62 : decode cX6_luck 62 = .ok (.lreturn, 1) := by decide +kernel
theorem dX6_mean_0 : decode cX6_mean 0 = .ok (.iload_n 1, 1) := by decide +kernel
theorem dX6_mean_1 : decode cX6_mean 1 = .ok (.invokestatic 233, 3) := by decide +kernel
theorem dX6_mean_4 : decode cX6_mean 4 = .ok (.ifCond .eq 29, 3) := by decide +kernel
theorem dX6_mean_7 : decode cX6_mean 7 = .ok (.aload_n 0, 1) := by decide +kernel
theorem dX6_mean_8 : decode cX6_mean 8 = .ok (.getfield 10, 3) := by decide +kernel
theorem dX6_mean_11 : decode cX6_mean 11 = .ok (.iload_n 2, 1) := by decide +kernel
theorem dX6_mean_12 : decode cX6_mean 12 = .ok (.invokevirtual 111, 3) := by decide +kernel
theorem dX6_mean_15 : decode cX6_mean 15 = .ok (.ifCond .eq 18, 3) := by decide +kernel
theorem dX6_mean_18 : decode cX6_mean 18 = .ok (.iload_n 3, 1) := by decide +kernel
theorem dX6_mean_19 : decode cX6_mean 19 = .ok (.invokestatic 163, 3) := by decide +kernel
theorem dX6_mean_22 : decode cX6_mean 22 = .ok (.ifCond .eq 11, 3) := by decide +kernel
theorem dX6_mean_25 : decode cX6_mean 25 = .ok (.iload 4, 2) := by decide +kernel
theorem dX6_mean_27 : decode cX6_mean 27 = .ok (.invokestatic 204, 3) := by decide +kernel
theorem dX6_mean_30 : decode cX6_mean 30 = .ok (.ifCond .ne 7, 3) := by decide +kernel
theorem dX6_mean_33 : decode cX6_mean 33 = .ok (.ldc2_w 236, 3) := by decide +kernel
theorem dX6_mean_36 : decode cX6_mean 36 = .ok (.lreturn, 1) := by decide +kernel
theorem dX6_mean_37 : decode cX6_mean 37 = .ok (.aload_n 0, 1) := by decide +kernel
theorem dX6_mean_38 : decode cX6_mean 38 = .ok (.iload_n 1, 1) := by decide +kernel
theorem dX6_mean_39 : decode cX6_mean 39 = .ok (.iload_n 2, 1) := by decide +kernel
theorem dX6_mean_40 : decode cX6_mean 40 = .ok (.iload_n 3, 1) := by decide +kernel
theorem dX6_mean_41 : decode cX6_mean 41 = .ok (.aload_n 0, 1) := by decide +kernel
theorem dX6_mean_42 : decode cX6_mean 42 = .ok (.getfield 10, 3) := by decide +kernel
theorem dX6_mean_45 : decode cX6_mean 45 = .ok (.invokevirtual 201, 3) := by decide +kernel
theorem dX6_mean_48 : decode cX6_mean 48 = .ok (.iload 4, 2) := by decide +kernel
theorem dX6_mean_50 : decode cX6_mean 50 = .ok (.invokevirtual 238, 3) := by decide +kernel
theorem dX6_mean_53 : decode cX6_mean 53 = .ok (.lreturn, 1) := by decide +kernel
theorem dX6_meanHearers_0 : decode cX6_meanHearers 0 = .ok (.aload_n 0, 1) := by decide +kernel
theorem dX6_meanHearers_1 : decode cX6_meanHearers 1 = .ok (.getfield 10, 3) := by decide +kernel
theorem dX6_meanHearers_4 : decode cX6_meanHearers 4 = .ok (.getfield 96, 3) := by decide +kernel
theorem dX6_meanHearers_7 : decode cX6_meanHearers 7 = .ok (.aload_n 0, 1) := by decide +kernel
theorem dX6_meanHearers_8 : decode cX6_meanHearers 8 = .ok (.getfield 10, 3) := by decide +kernel
theorem dX6_meanHearers_11 : decode cX6_meanHearers 11 = .ok (.getfield 105, 3) := by decide +kernel
theorem dX6_meanHearers_14 : decode cX6_meanHearers 14 = .ok (.invokestatic 218, 3) := by decide +kernel
theorem dX6_meanHearers_17 : decode cX6_meanHearers 17 = .ok (.isub, 1) := by decide +kernel
theorem dX6_meanHearers_18 : decode cX6_meanHearers 18 = .ok (.istore 6, 2) := by decide +kernel
theorem dX6_meanHearers_20 : decode cX6_meanHearers 20 = .ok (.lconst 0, 1) := by decide +kernel
theorem dX6_meanHearers_21 : decode cX6_meanHearers 21 = .ok (.lstore 7, 2) := by decide +kernel
theorem dX6_meanHearers_23 : decode cX6_meanHearers 23 = .ok (.aload_n 0, 1) := by decide +kernel
theorem dX6_meanHearers_24 : decode cX6_meanHearers 24 = .ok (.getfield 16, 3) := by decide +kernel
theorem dX6_meanHearers_27 : decode cX6_meanHearers 27 = .ok (.aload_n 0, 1) := by decide +kernel
theorem dX6_meanHearers_28 : decode cX6_meanHearers 28 = .ok (.getfield 10, 3) := by decide +kernel
theorem dX6_meanHearers_31 : decode cX6_meanHearers 31 = .ok (.invokevirtual 85, 3) := by decide +kernel
theorem dX6_meanHearers_34 : decode cX6_meanHearers 34 = .ok (.iconst 0, 1) := by decide +kernel
theorem dX6_meanHearers_35 : decode cX6_meanHearers 35 = .ok (.istore 9, 2) := by decide +kernel
theorem dX6_meanHearers_37 : decode cX6_meanHearers 37 = .ok (.iload 9, 2) := by decide +kernel
theorem dX6_meanHearers_39 : decode cX6_meanHearers 39 = .ok (.iconst 1, 1) := by decide +kernel
theorem dX6_meanHearers_40 : decode cX6_meanHearers 40 = .ok (.aload_n 0, 1) := by decide +kernel
theorem dX6_meanHearers_41 : decode cX6_meanHearers 41 = .ok (.getfield 10, 3) := by decide +kernel
theorem dX6_meanHearers_44 : decode cX6_meanHearers 44 = .ok (.getfield 96, 3) := by decide +kernel
theorem dX6_meanHearers_47 : decode cX6_meanHearers 47 = .ok (.ishl, 1) := by decide +kernel
theorem dX6_meanHearers_48 : decode cX6_meanHearers 48 = .ok (.if_icmp .ge 98, 3) := by decide +kernel
theorem dX6_meanHearers_51 : decode cX6_meanHearers 51 = .ok (.iload 9, 2) := by decide +kernel
theorem dX6_meanHearers_53 : decode cX6_meanHearers 53 = .ok (.aload_n 0, 1) := by decide +kernel
theorem dX6_meanHearers_54 : decode cX6_meanHearers 54 = .ok (.getfield 10, 3) := by decide +kernel
theorem dX6_meanHearers_57 : decode cX6_meanHearers 57 = .ok (.getfield 105, 3) := by decide +kernel
theorem dX6_meanHearers_60 : decode cX6_meanHearers 60 = .ok (.iand, 1) := by decide +kernel
theorem dX6_meanHearers_61 : decode cX6_meanHearers 61 = .ok (.ifCond .ne 79, 3) := by decide +kernel
theorem dX6_meanHearers_64 : decode cX6_meanHearers 64 = .ok (.iload 9, 2) := by decide +kernel
theorem dX6_meanHearers_66 : decode cX6_meanHearers 66 = .ok (.invokestatic 218, 3) := by decide +kernel
theorem dX6_meanHearers_69 : decode cX6_meanHearers 69 = .ok (.istore 10, 2) := by decide +kernel
theorem dX6_meanHearers_71 : decode cX6_meanHearers 71 = .ok (.iload_n 1, 1) := by decide +kernel
theorem dX6_meanHearers_72 : decode cX6_meanHearers 72 = .ok (.iload 10, 2) := by decide +kernel
theorem dX6_meanHearers_74 : decode cX6_meanHearers 74 = .ok (.invokestatic 242, 3) := by decide +kernel
theorem dX6_meanHearers_77 : decode cX6_meanHearers 77 = .ok (.bipush 10, 2) := by decide +kernel
theorem dX6_meanHearers_79 : decode cX6_meanHearers 79 = .ok (.iload_n 1, 1) := by decide +kernel
theorem dX6_meanHearers_80 : decode cX6_meanHearers 80 = .ok (.isub, 1) := by decide +kernel
theorem dX6_meanHearers_81 : decode cX6_meanHearers 81 = .ok (.iload 6, 2) := by decide +kernel
theorem dX6_meanHearers_83 : decode cX6_meanHearers 83 = .ok (.iload 10, 2) := by decide +kernel
theorem dX6_meanHearers_85 : decode cX6_meanHearers 85 = .ok (.isub, 1) := by decide +kernel
theorem dX6_meanHearers_86 : decode cX6_meanHearers 86 = .ok (.invokestatic 242, 3) := by decide +kernel
theorem dX6_meanHearers_89 : decode cX6_meanHearers 89 = .ok (.lmul, 1) := by decide +kernel
theorem dX6_meanHearers_90 : decode cX6_meanHearers 90 = .ok (.lstore 11, 2) := by decide +kernel
theorem dX6_meanHearers_92 : decode cX6_meanHearers 92 = .ok (.lload 11, 2) := by decide +kernel
theorem dX6_meanHearers_94 : decode cX6_meanHearers 94 = .ok (.lconst 0, 1) := by decide +kernel
theorem dX6_meanHearers_95 : decode cX6_meanHearers 95 = .ok (.lcmp, 1) := by decide +kernel
theorem dX6_meanHearers_96 : decode cX6_meanHearers 96 = .ok (.ifCond .eq 44, 3) := by decide +kernel
theorem dX6_meanHearers_99 : decode cX6_meanHearers 99 = .ok (.aload_n 0, 1) := by decide +kernel
theorem dX6_meanHearers_100 : decode cX6_meanHearers 100 = .ok (.getfield 16, 3) := by decide +kernel
theorem dX6_meanHearers_103 : decode cX6_meanHearers 103 = .ok (.aload_n 0, 1) := by decide +kernel
theorem dX6_meanHearers_104 : decode cX6_meanHearers 104 = .ok (.getfield 10, 3) := by decide +kernel
theorem dX6_meanHearers_107 : decode cX6_meanHearers 107 = .ok (.getfield 105, 3) := by decide +kernel
theorem dX6_meanHearers_110 : decode cX6_meanHearers 110 = .ok (.iload 9, 2) := by decide +kernel
theorem dX6_meanHearers_112 : decode cX6_meanHearers 112 = .ok (.ior, 1) := by decide +kernel
theorem dX6_meanHearers_113 : decode cX6_meanHearers 113 = .ok (.putfield 105, 3) := by decide +kernel
theorem dX6_meanHearers_116 : decode cX6_meanHearers 116 = .ok (.lload 7, 2) := by decide +kernel
theorem dX6_meanHearers_118 : decode cX6_meanHearers 118 = .ok (.lload 11, 2) := by decide +kernel
theorem dX6_meanHearers_120 : decode cX6_meanHearers 120 = .ok (.aload_n 0, 1) := by decide +kernel
theorem dX6_meanHearers_121 : decode cX6_meanHearers 121 = .ok (.getfield 16, 3) := by decide +kernel
theorem dX6_meanHearers_124 : decode cX6_meanHearers 124 = .ok (.iload_n 2, 1) := by decide +kernel
theorem dX6_meanHearers_125 : decode cX6_meanHearers 125 = .ok (.iload_n 3, 1) := by decide +kernel
theorem dX6_meanHearers_126 : decode cX6_meanHearers 126 = .ok (.invokevirtual 155, 3) := by decide +kernel
theorem dX6_meanHearers_129 : decode cX6_meanHearers 129 = .ok (.iload 4, 2) := by decide +kernel
theorem dX6_meanHearers_131 : decode cX6_meanHearers 131 = .ok (.iand, 1) := by decide +kernel
theorem dX6_meanHearers_132 : decode cX6_meanHearers 132 = .ok (.invokestatic 218, 3) := by decide +kernel
theorem dX6_meanHearers_135 : decode cX6_meanHearers 135 = .ok (.i2l, 1) := by decide +kernel
theorem dX6_meanHearers_136 : decode cX6_meanHearers 136 = .ok (.lmul, 1) := by decide +kernel
theorem dX6_meanHearers_137 : decode cX6_meanHearers 137 = .ok (.ladd, 1) := by decide +kernel
theorem dX6_meanHearers_138 : decode cX6_meanHearers 138 = .ok (.lstore 7, 2) := by decide +kernel
theorem dX6_meanHearers_140 : decode cX6_meanHearers 140 = .ok (.iinc 9 1, 3) := by decide +kernel
theorem dX6_meanHearers_143 : decode cX6_meanHearers 143 = .ok (.goto (-106), 3) := by decide +kernel
theorem dX6_meanHearers_146 : decode cX6_meanHearers 146 = .ok (.bipush 10, 2) := by decide +kernel
theorem dX6_meanHearers_148 : decode cX6_meanHearers 148 = .ok (.iload 6, 2) := by decide +kernel
theorem dX6_meanHearers_150 : decode cX6_meanHearers 150 = .ok (.invokestatic 242, 3) := by decide +kernel
theorem dX6_meanHearers_153 : decode cX6_meanHearers 153 = .ok (.lstore 9, 2) := by decide +kernel
theorem dX6_meanHearers_155 : decode cX6_meanHearers 155 = .ok (.lconst 1, 1) := by decide +kernel
theorem dX6_meanHearers_156 : decode cX6_meanHearers 156 = .ok (.lload 7, 2) := by decide +kernel
theorem dX6_meanHearers_158 : decode cX6_meanHearers 158 = .ok (.lload 9, 2) := by decide +kernel
theorem dX6_meanHearers_160 : decode cX6_meanHearers 160 = .ok (.invokestatic 246, 3) := by decide +kernel
theorem dX6_meanHearers_163 : decode cX6_meanHearers 163 = .ok (.invokestatic 250, 3) := by decide +kernel
theorem dX6_meanHearers_166 : decode cX6_meanHearers 166 = .ok (.lstore 11, 2) := by decide +kernel
theorem dX6_meanHearers_168 : decode cX6_meanHearers 168 = .ok (.iload 5, 2) := by decide +kernel
theorem dX6_meanHearers_170 : decode cX6_meanHearers 170 = .ok (.ifCond .ne 11, 3) := by decide +kernel
theorem dX6_meanHearers_173 : decode cX6_meanHearers 173 = .ok (.lload 7, 2) := by decide +kernel
theorem dX6_meanHearers_175 : decode cX6_meanHearers 175 = .ok (.lload 11, 2) := by decide +kernel
theorem dX6_meanHearers_177 : decode cX6_meanHearers 177 = .ok (.ldiv, 1) := by decide +kernel
theorem dX6_meanHearers_178 : decode cX6_meanHearers 178 = .ok (.goto 8, 3) := by decide +kernel
theorem dX6_meanHearers_181 : decode cX6_meanHearers 181 = .ok (.lload 9, 2) := by decide +kernel
theorem dX6_meanHearers_183 : decode cX6_meanHearers 183 = .ok (.lload 11, 2) := by decide +kernel
theorem dX6_meanHearers_185 : decode cX6_meanHearers 185 = .ok (.ldiv, 1) := by decide +kernel
theorem dX6_meanHearers_186 : decode cX6_meanHearers 186 = .ok (.lreturn, 1) := by decide +kernel
theorem dX6_see_0 : decode cX6_see 0 = .ok (.aload_n 0, 1) := by decide +kernel
theorem dX6_see_1 : decode cX6_see 1 = .ok (.getfield 10, 3) := by decide +kernel
theorem dX6_see_4 : decode cX6_see 4 = .ok (.iload_n 1, 1) := by decide +kernel
theorem dX6_see_5 : decode cX6_see 5 = .ok (.invokevirtual 111, 3) := by decide +kernel
theorem dX6_see_8 : decode cX6_see 8 = .ok (.ifCond .eq 25, 3) := by decide +kernel
theorem dX6_see_11 : decode cX6_see 11 = .ok (.iload_n 2, 1) := by decide +kernel
theorem dX6_see_12 : decode cX6_see 12 = .ok (.iconst 0, 1) := by decide +kernel
theorem dX6_see_13 : decode cX6_see 13 = .ok (.bipush 120, 2) := by decide +kernel
theorem dX6_see_15 : decode cX6_see 15 = .ok (.invokestatic 51, 3) := by decide +kernel
theorem dX6_see_18 : decode cX6_see 18 = .ok (.ifCond .eq 15, 3) := by decide +kernel
theorem dX6_see_21 : decode cX6_see 21 = .ok (.aload_n 0, 1) := by decide +kernel
theorem dX6_see_22 : decode cX6_see 22 = .ok (.getfield 40, 3) := by decide +kernel
theorem dX6_see_25 : decode cX6_see 25 = .ok (.iload_n 1, 1) := by decide +kernel
theorem dX6_see_26 : decode cX6_see 26 = .ok (.iload_n 2, 1) := by decide +kernel
theorem dX6_see_27 : decode cX6_see 27 = .ok (.invokevirtual 255, 3) := by decide +kernel
theorem dX6_see_30 : decode cX6_see 30 = .ok (.goto 4, 3) := by decide +kernel
theorem dX6_see_33 : decode cX6_see 33 = .ok (.iconst (-1), 1) := by decide +kernel
theorem dX6_see_34 : decode cX6_see 34 = .ok (.ireturn, 1) := by decide +kernel
theorem dX6_forget_0 : decode cX6_forget 0 = .ok (.iload_n 1, 1) := by decide +kernel
theorem dX6_forget_1 : decode cX6_forget 1 = .ok (.iconst 0, 1) := by decide +kernel
theorem dX6_forget_2 : decode cX6_forget 2 = .ok (.aload_n 0, 1) := by decide +kernel
theorem dX6_forget_3 : decode cX6_forget 3 = .ok (.getfield 40, 3) := by decide +kernel
theorem dX6_forget_6 : decode cX6_forget 6 = .ok (.getfield 257, 3) := by decide +kernel
theorem dX6_forget_9 : decode cX6_forget 9 = .ok (.invokestatic 51, 3) := by decide +kernel
theorem dX6_forget_12 : decode cX6_forget 12 = .ok (.ifCond .eq 14, 3) := by decide +kernel
theorem dX6_forget_15 : decode cX6_forget 15 = .ok (.aload_n 0, 1) := by decide +kernel
theorem dX6_forget_16 : decode cX6_forget 16 = .ok (.getfield 40, 3) := by decide +kernel
theorem dX6_forget_19 : decode cX6_forget 19 = .ok (.iload_n 1, 1) := by decide +kernel
theorem dX6_forget_20 : decode cX6_forget 20 = .ok (.invokevirtual 89, 3) := by decide +kernel
theorem dX6_forget_23 : decode cX6_forget 23 = .ok (.goto 4, 3) := by decide +kernel
theorem dX6_forget_26 : decode cX6_forget 26 = .ok (.iconst (-1), 1) := by decide +kernel
theorem dX6_forget_27 : decode cX6_forget 27 = .ok (.ireturn, 1) := by decide +kernel
theorem dX6_sayers_0 : decode cX6_sayers 0 = .ok (.aload_n 0, 1) := by decide +kernel
theorem dX6_sayers_1 : decode cX6_sayers 1 = .ok (.getfield 40, 3) := by decide +kernel
theorem dX6_sayers_4 : decode cX6_sayers 4 = .ok (.aload_n 0, 1) := by decide +kernel
theorem dX6_sayers_5 : decode cX6_sayers 5 = .ok (.getfield 10, 3) := by decide +kernel
theorem dX6_sayers_8 : decode cX6_sayers 8 = .ok (.invokevirtual 258, 3) := by decide +kernel
theorem dX6_sayers_11 : decode cX6_sayers 11 = .ok (.ireturn, 1) := by decide +kernel
theorem dX6_breaths_0 : decode cX6_breaths 0 = .ok (.aload_n 0, 1) := by decide +kernel
theorem dX6_breaths_1 : decode cX6_breaths 1 = .ok (.getfield 10, 3) := by decide +kernel
theorem dX6_breaths_4 : decode cX6_breaths 4 = .ok (.iload_n 1, 1) := by decide +kernel
theorem dX6_breaths_5 : decode cX6_breaths 5 = .ok (.invokevirtual 111, 3) := by decide +kernel
theorem dX6_breaths_8 : decode cX6_breaths 8 = .ok (.ifCond .eq 10, 3) := by decide +kernel
theorem dX6_breaths_11 : decode cX6_breaths 11 = .ok (.iload_n 2, 1) := by decide +kernel
theorem dX6_breaths_12 : decode cX6_breaths 12 = .ok (.invokestatic 204, 3) := by decide +kernel
theorem dX6_breaths_15 : decode cX6_breaths 15 = .ok (.ifCond .ne 5, 3) := by decide +kernel
theorem dX6_breaths_18 : decode cX6_breaths 18 = .ok (.iconst (-1), 1) := by decide +kernel
theorem dX6_breaths_19 : decode cX6_breaths 19 = .ok (.ireturn, 1) := by decide +kernel
theorem dX6_breaths_20 : decode cX6_breaths 20 = .ok (.iload_n 2, 1) := by decide +kernel
theorem dX6_breaths_21 : decode cX6_breaths 21 = .ok (.ifCond .ne 18, 3) := by decide +kernel
theorem dX6_breaths_24 : decode cX6_breaths 24 = .ok (.aload_n 0, 1) := by decide +kernel
theorem dX6_breaths_25 : decode cX6_breaths 25 = .ok (.getfield 40, 3) := by decide +kernel
theorem dX6_breaths_28 : decode cX6_breaths 28 = .ok (.aload_n 0, 1) := by decide +kernel
theorem dX6_breaths_29 : decode cX6_breaths 29 = .ok (.getfield 10, 3) := by decide +kernel
theorem dX6_breaths_32 : decode cX6_breaths 32 = .ok (.iload_n 1, 1) := by decide +kernel
theorem dX6_breaths_33 : decode cX6_breaths 33 = .ok (.invokevirtual 262, 3) := by decide +kernel
theorem dX6_breaths_36 : decode cX6_breaths 36 = .ok (.goto 15, 3) := by decide +kernel
theorem dX6_breaths_39 : decode cX6_breaths 39 = .ok (.aload_n 0, 1) := by decide +kernel
theorem dX6_breaths_40 : decode cX6_breaths 40 = .ok (.getfield 40, 3) := by decide +kernel
theorem dX6_breaths_43 : decode cX6_breaths 43 = .ok (.aload_n 0, 1) := by decide +kernel
theorem dX6_breaths_44 : decode cX6_breaths 44 = .ok (.getfield 10, 3) := by decide +kernel
theorem dX6_breaths_47 : decode cX6_breaths 47 = .ok (.iload_n 1, 1) := by decide +kernel
theorem dX6_breaths_48 : decode cX6_breaths 48 = .ok (.invokevirtual 266, 3) := by decide +kernel
theorem dX6_breaths_51 : decode cX6_breaths 51 = .ok (.ireturn, 1) := by decide +kernel
theorem dX6_kinds_0 : decode cX6_kinds 0 = .ok (.aload_n 0, 1) := by decide +kernel
theorem dX6_kinds_1 : decode cX6_kinds 1 = .ok (.getfield 10, 3) := by decide +kernel
theorem dX6_kinds_4 : decode cX6_kinds 4 = .ok (.iload_n 1, 1) := by decide +kernel
theorem dX6_kinds_5 : decode cX6_kinds 5 = .ok (.invokevirtual 111, 3) := by decide +kernel
theorem dX6_kinds_8 : decode cX6_kinds 8 = .ok (.ifCond .ne 5, 3) := by decide +kernel
theorem dX6_kinds_11 : decode cX6_kinds 11 = .ok (.iconst (-1), 1) := by decide +kernel
theorem dX6_kinds_12 : decode cX6_kinds 12 = .ok (.ireturn, 1) := by decide +kernel
theorem dX6_kinds_13 : decode cX6_kinds 13 = .ok (.iconst 0, 1) := by decide +kernel
theorem dX6_kinds_14 : decode cX6_kinds 14 = .ok (.istore_n 2, 1) := by decide +kernel
theorem dX6_kinds_15 : decode cX6_kinds 15 = .ok (.aload_n 0, 1) := by decide +kernel
theorem dX6_kinds_16 : decode cX6_kinds 16 = .ok (.getfield 16, 3) := by decide +kernel
theorem dX6_kinds_19 : decode cX6_kinds 19 = .ok (.aload_n 0, 1) := by decide +kernel
theorem dX6_kinds_20 : decode cX6_kinds 20 = .ok (.getfield 10, 3) := by decide +kernel
theorem dX6_kinds_23 : decode cX6_kinds 23 = .ok (.invokevirtual 85, 3) := by decide +kernel
theorem dX6_kinds_26 : decode cX6_kinds 26 = .ok (.iconst 0, 1) := by decide +kernel
theorem dX6_kinds_27 : decode cX6_kinds 27 = .ok (.istore_n 3, 1) := by decide +kernel
theorem dX6_kinds_28 : decode cX6_kinds 28 = .ok (.iload_n 3, 1) := by decide +kernel
theorem dX6_kinds_29 : decode cX6_kinds 29 = .ok (.iconst 3, 1) := by decide +kernel
theorem dX6_kinds_30 : decode cX6_kinds 30 = .ok (.if_icmp .gt 39, 3) := by decide +kernel
theorem dX6_kinds_33 : decode cX6_kinds 33 = .ok (.aload_n 0, 1) := by decide +kernel
theorem dX6_kinds_34 : decode cX6_kinds 34 = .ok (.getfield 16, 3) := by decide +kernel
theorem dX6_kinds_37 : decode cX6_kinds 37 = .ok (.getfield 115, 3) := by decide +kernel
theorem dX6_kinds_40 : decode cX6_kinds 40 = .ok (.iload_n 1, 1) := by decide +kernel
theorem dX6_kinds_41 : decode cX6_kinds 41 = .ok (.iload_n 3, 1) := by decide +kernel
theorem dX6_kinds_42 : decode cX6_kinds 42 = .ok (.iastore, 1) := by decide +kernel
theorem dX6_kinds_43 : decode cX6_kinds 43 = .ok (.aload_n 0, 1) := by decide +kernel
theorem dX6_kinds_44 : decode cX6_kinds 44 = .ok (.getfield 40, 3) := by decide +kernel
theorem dX6_kinds_47 : decode cX6_kinds 47 = .ok (.aload_n 0, 1) := by decide +kernel
theorem dX6_kinds_48 : decode cX6_kinds 48 = .ok (.getfield 16, 3) := by decide +kernel
theorem dX6_kinds_51 : decode cX6_kinds 51 = .ok (.invokevirtual 258, 3) := by decide +kernel
theorem dX6_kinds_54 : decode cX6_kinds 54 = .ok (.ifCond .eq 9, 3) := by decide +kernel
theorem dX6_kinds_57 : decode cX6_kinds 57 = .ok (.iload_n 2, 1) := by decide +kernel
theorem dX6_kinds_58 : decode cX6_kinds 58 = .ok (.iconst 1, 1) := by decide +kernel
theorem dX6_kinds_59 : decode cX6_kinds 59 = .ok (.iload_n 3, 1) := by decide +kernel
theorem dX6_kinds_60 : decode cX6_kinds 60 = .ok (.ishl, 1) := by decide +kernel
theorem dX6_kinds_61 : decode cX6_kinds 61 = .ok (.ior, 1) := by decide +kernel
theorem dX6_kinds_62 : decode cX6_kinds 62 = .ok (.istore_n 2, 1) := by decide +kernel
theorem dX6_kinds_63 : decode cX6_kinds 63 = .ok (.iinc 3 1, 3) := by decide +kernel
theorem dX6_kinds_66 : decode cX6_kinds 66 = .ok (.goto (-38), 3) := by decide +kernel
theorem dX6_kinds_69 : decode cX6_kinds 69 = .ok (.iload_n 2, 1) := by decide +kernel
theorem dX6_kinds_70 : decode cX6_kinds 70 = .ok (.ireturn, 1) := by decide +kernel
theorem dX6_ask_0 : decode cX6_ask 0 = .ok (.iload_n 1, 1) := by decide +kernel
theorem dX6_ask_1 : decode cX6_ask 1 = .ok (.invokestatic 204, 3) := by decide +kernel
theorem dX6_ask_4 : decode cX6_ask 4 = .ok (.ifCond .ne 5, 3) := by decide +kernel
theorem dX6_ask_7 : decode cX6_ask 7 = .ok (.iconst (-1), 1) := by decide +kernel
theorem dX6_ask_8 : decode cX6_ask 8 = .ok (.ireturn, 1) := by decide +kernel
theorem dX6_ask_9 : decode cX6_ask 9 = .ok (.iconst 0, 1) := by decide +kernel
theorem dX6_ask_10 : decode cX6_ask 10 = .ok (.istore_n 2, 1) := by decide +kernel
theorem dX6_ask_11 : decode cX6_ask 11 = .ok (.iconst 0, 1) := by decide +kernel
theorem dX6_ask_12 : decode cX6_ask 12 = .ok (.istore_n 3, 1) := by decide +kernel
theorem dX6_ask_13 : decode cX6_ask 13 = .ok (.iload_n 3, 1) := by decide +kernel
theorem dX6_ask_14 : decode cX6_ask 14 = .ok (.aload_n 0, 1) := by decide +kernel
theorem dX6_ask_15 : decode cX6_ask 15 = .ok (.getfield 10, 3) := by decide +kernel
theorem dX6_ask_18 : decode cX6_ask 18 = .ok (.getfield 93, 3) := by decide +kernel
theorem dX6_ask_21 : decode cX6_ask 21 = .ok (.if_icmp .ge 24, 3) := by decide +kernel
theorem dX6_ask_24 : decode cX6_ask 24 = .ok (.iload_n 2, 1) := by decide +kernel
theorem dX6_ask_25 : decode cX6_ask 25 = .ok (.aload_n 0, 1) := by decide +kernel
theorem dX6_ask_26 : decode cX6_ask 26 = .ok (.getfield 40, 3) := by decide +kernel
theorem dX6_ask_29 : decode cX6_ask 29 = .ok (.aload_n 0, 1) := by decide +kernel
theorem dX6_ask_30 : decode cX6_ask 30 = .ok (.getfield 10, 3) := by decide +kernel
theorem dX6_ask_33 : decode cX6_ask 33 = .ok (.iload_n 3, 1) := by decide +kernel
theorem dX6_ask_34 : decode cX6_ask 34 = .ok (.invokevirtual 262, 3) := by decide +kernel
theorem dX6_ask_37 : decode cX6_ask 37 = .ok (.iadd, 1) := by decide +kernel
theorem dX6_ask_38 : decode cX6_ask 38 = .ok (.istore_n 2, 1) := by decide +kernel
theorem dX6_ask_39 : decode cX6_ask 39 = .ok (.iinc 3 1, 3) := by decide +kernel
theorem dX6_ask_42 : decode cX6_ask 42 = .ok (.goto (-29), 3) := by decide +kernel
theorem dX6_ask_45 : decode cX6_ask 45 = .ok (.aload_n 0, 1) := by decide +kernel
theorem dX6_ask_46 : decode cX6_ask 46 = .ok (.getfield 26, 3) := by decide +kernel
theorem dX6_ask_49 : decode cX6_ask 49 = .ok (.iload_n 2, 1) := by decide +kernel
theorem dX6_ask_50 : decode cX6_ask 50 = .ok (.invokevirtual 207, 3) := by decide +kernel
theorem dX6_ask_53 : decode cX6_ask 53 = .ok (.iconst 0, 1) := by decide +kernel
theorem dX6_ask_54 : decode cX6_ask 54 = .ok (.istore_n 3, 1) := by decide +kernel
theorem dX6_ask_55 : decode cX6_ask 55 = .ok (.iload_n 3, 1) := by decide +kernel
theorem dX6_ask_56 : decode cX6_ask 56 = .ok (.aload_n 0, 1) := by decide +kernel
theorem dX6_ask_57 : decode cX6_ask 57 = .ok (.getfield 10, 3) := by decide +kernel
theorem dX6_ask_60 : decode cX6_ask 60 = .ok (.getfield 93, 3) := by decide +kernel
theorem dX6_ask_63 : decode cX6_ask 63 = .ok (.if_icmp .ge 29, 3) := by decide +kernel
theorem dX6_ask_66 : decode cX6_ask 66 = .ok (.aload_n 0, 1) := by decide +kernel
theorem dX6_ask_67 : decode cX6_ask 67 = .ok (.getfield 26, 3) := by decide +kernel
theorem dX6_ask_70 : decode cX6_ask 70 = .ok (.iload_n 3, 1) := by decide +kernel
theorem dX6_ask_71 : decode cX6_ask 71 = .ok (.aload_n 0, 1) := by decide +kernel
theorem dX6_ask_72 : decode cX6_ask 72 = .ok (.getfield 40, 3) := by decide +kernel
theorem dX6_ask_75 : decode cX6_ask 75 = .ok (.aload_n 0, 1) := by decide +kernel
theorem dX6_ask_76 : decode cX6_ask 76 = .ok (.getfield 10, 3) := by decide +kernel
theorem dX6_ask_79 : decode cX6_ask 79 = .ok (.iload_n 3, 1) := by decide +kernel
theorem dX6_ask_80 : decode cX6_ask 80 = .ok (.invokevirtual 269, 3) := by decide +kernel
theorem dX6_ask_83 : decode cX6_ask 83 = .ok (.invokevirtual 211, 3) := by decide +kernel
theorem dX6_ask_86 : decode cX6_ask 86 = .ok (.iinc 3 1, 3) := by decide +kernel
theorem dX6_ask_89 : decode cX6_ask 89 = .ok (.goto (-34), 3) := by decide +kernel
theorem dX6_ask_92 : decode cX6_ask 92 = .ok (.aload_n 0, 1) := by decide +kernel
theorem dX6_ask_93 : decode cX6_ask 93 = .ok (.getfield 26, 3) := by decide +kernel
theorem dX6_ask_96 : decode cX6_ask 96 = .ok (.iload_n 1, 1) := by decide +kernel
theorem dX6_ask_97 : decode cX6_ask 97 = .ok (.invokevirtual 215, 3) := by decide +kernel
theorem dX6_ask_100 : decode cX6_ask 100 = .ok (.ireturn, 1) := by decide +kernel
theorem dX6_drift_0 : decode cX6_drift 0 = .ok (.iload_n 2, 1) := by decide +kernel
theorem dX6_drift_1 : decode cX6_drift 1 = .ok (.iconst 1, 1) := by decide +kernel
theorem dX6_drift_2 : decode cX6_drift 2 = .ok (.bipush 60, 2) := by decide +kernel
theorem dX6_drift_4 : decode cX6_drift 4 = .ok (.invokestatic 51, 3) := by decide +kernel
theorem dX6_drift_7 : decode cX6_drift 7 = .ok (.ifCond .eq 10, 3) := by decide +kernel
theorem dX6_drift_10 : decode cX6_drift 10 = .ok (.iload_n 3, 1) := by decide +kernel
theorem dX6_drift_11 : decode cX6_drift 11 = .ok (.invokestatic 204, 3) := by decide +kernel
theorem dX6_drift_14 : decode cX6_drift 14 = .ok (.ifCond .ne 5, 3) := by decide +kernel
theorem dX6_drift_17 : decode cX6_drift 17 = .ok (.iconst (-1), 1) := by decide +kernel
theorem dX6_drift_18 : decode cX6_drift 18 = .ok (.ireturn, 1) := by decide +kernel
theorem dX6_drift_19 : decode cX6_drift 19 = .ok (.aload_n 0, 1) := by decide +kernel
theorem dX6_drift_20 : decode cX6_drift 20 = .ok (.getfield 10, 3) := by decide +kernel
theorem dX6_drift_23 : decode cX6_drift 23 = .ok (.getfield 96, 3) := by decide +kernel
theorem dX6_drift_26 : decode cX6_drift 26 = .ok (.istore 4, 2) := by decide +kernel
theorem dX6_drift_28 : decode cX6_drift 28 = .ok (.iload 4, 2) := by decide +kernel
theorem dX6_drift_30 : decode cX6_drift 30 = .ok (.ifCond .ne 6, 3) := by decide +kernel
theorem dX6_drift_33 : decode cX6_drift 33 = .ok (.bipush (-2), 2) := by decide +kernel
theorem dX6_drift_35 : decode cX6_drift 35 = .ok (.ireturn, 1) := by decide +kernel
theorem dX6_drift_36 : decode cX6_drift 36 = .ok (.aload_n 0, 1) := by decide +kernel
theorem dX6_drift_37 : decode cX6_drift 37 = .ok (.getfield 16, 3) := by decide +kernel
theorem dX6_drift_40 : decode cX6_drift 40 = .ok (.aload_n 0, 1) := by decide +kernel
theorem dX6_drift_41 : decode cX6_drift 41 = .ok (.getfield 10, 3) := by decide +kernel
theorem dX6_drift_44 : decode cX6_drift 44 = .ok (.invokevirtual 85, 3) := by decide +kernel
theorem dX6_drift_47 : decode cX6_drift 47 = .ok (.iload_n 1, 1) := by decide +kernel
theorem dX6_drift_48 : decode cX6_drift 48 = .ok (.istore 5, 2) := by decide +kernel
theorem dX6_drift_50 : decode cX6_drift 50 = .ok (.iconst 0, 1) := by decide +kernel
theorem dX6_drift_51 : decode cX6_drift 51 = .ok (.istore 6, 2) := by decide +kernel
theorem dX6_drift_53 : decode cX6_drift 53 = .ok (.iconst 0, 1) := by decide +kernel
theorem dX6_drift_54 : decode cX6_drift 54 = .ok (.istore 7, 2) := by decide +kernel
theorem dX6_drift_56 : decode cX6_drift 56 = .ok (.iconst 0, 1) := by decide +kernel
theorem dX6_drift_57 : decode cX6_drift 57 = .ok (.istore 8, 2) := by decide +kernel
theorem dX6_drift_59 : decode cX6_drift 59 = .ok (.iload 8, 2) := by decide +kernel
theorem dX6_drift_61 : decode cX6_drift 61 = .ok (.iload_n 2, 1) := by decide +kernel
theorem dX6_drift_62 : decode cX6_drift 62 = .ok (.if_icmp .ge 82, 3) := by decide +kernel
theorem dX6_drift_65 : decode cX6_drift 65 = .ok (.iload 5, 2) := by decide +kernel
theorem dX6_drift_67 : decode cX6_drift 67 = .ok (.ldc_w 272, 3) := by decide +kernel
theorem dX6_drift_70 : decode cX6_drift 70 = .ok (.imul, 1) := by decide +kernel
theorem dX6_drift_71 : decode cX6_drift 71 = .ok (.sipush 12345, 3) := by decide +kernel
theorem dX6_drift_74 : decode cX6_drift 74 = .ok (.iadd, 1) := by decide +kernel
theorem dX6_drift_75 : decode cX6_drift 75 = .ok (.istore 5, 2) := by decide +kernel
theorem dX6_drift_77 : decode cX6_drift 77 = .ok (.iload 5, 2) := by decide +kernel
theorem dX6_drift_79 : decode cX6_drift 79 = .ok (.bipush 16, 2) := by decide +kernel
theorem dX6_drift_81 : decode cX6_drift 81 = .ok (.ishr, 1) := by decide +kernel
theorem dX6_drift_82 : decode cX6_drift 82 = .ok (.sipush 32767, 3) := by decide +kernel
theorem dX6_drift_85 : decode cX6_drift 85 = .ok (.iand, 1) := by decide +kernel
theorem dX6_drift_86 : decode cX6_drift 86 = .ok (.istore 9, 2) := by decide +kernel
theorem dX6_drift_88 : decode cX6_drift 88 = .ok (.aload_n 0, 1) := by decide +kernel
theorem dX6_drift_89 : decode cX6_drift 89 = .ok (.getfield 16, 3) := by decide +kernel
theorem dX6_drift_92 : decode cX6_drift 92 = .ok (.dup, 1) := by decide +kernel
theorem dX6_drift_93 : decode cX6_drift 93 = .ok (.getfield 105, 3) := by decide +kernel
theorem dX6_drift_96 : decode cX6_drift 96 = .ok (.iconst 1, 1) := by decide +kernel
theorem dX6_drift_97 : decode cX6_drift 97 = .ok (.iload 9, 2) := by decide +kernel
theorem dX6_drift_99 : decode cX6_drift 99 = .ok (.iload 4, 2) := by decide +kernel
theorem dX6_drift_101 : decode cX6_drift 101 = .ok (.irem, 1) := by decide +kernel
theorem dX6_drift_102 : decode cX6_drift 102 = .ok (.ishl, 1) := by decide +kernel
theorem dX6_drift_103 : decode cX6_drift 103 = .ok (.ixor, 1) := by decide +kernel
theorem dX6_drift_104 : decode cX6_drift 104 = .ok (.putfield 105, 3) := by decide +kernel
theorem dX6_drift_107 : decode cX6_drift 107 = .ok (.aload_n 0, 1) := by decide +kernel
theorem dX6_drift_108 : decode cX6_drift 108 = .ok (.getfield 16, 3) := by decide +kernel
theorem dX6_drift_111 : decode cX6_drift 111 = .ok (.iload 9, 2) := by decide +kernel
theorem dX6_drift_113 : decode cX6_drift 113 = .ok (.bipush 16, 2) := by decide +kernel
theorem dX6_drift_115 : decode cX6_drift 115 = .ok (.idiv, 1) := by decide +kernel
theorem dX6_drift_116 : decode cX6_drift 116 = .ok (.bipush 21, 2) := by decide +kernel
theorem dX6_drift_118 : decode cX6_drift 118 = .ok (.irem, 1) := by decide +kernel
theorem dX6_drift_119 : decode cX6_drift 119 = .ok (.putfield 99, 3) := by decide +kernel
theorem dX6_drift_122 : decode cX6_drift 122 = .ok (.aload_n 0, 1) := by decide +kernel
theorem dX6_drift_123 : decode cX6_drift 123 = .ok (.getfield 16, 3) := by decide +kernel
theorem dX6_drift_126 : decode cX6_drift 126 = .ok (.invokevirtual 230, 3) := by decide +kernel
theorem dX6_drift_129 : decode cX6_drift 129 = .ok (.istore 7, 2) := by decide +kernel
theorem dX6_drift_131 : decode cX6_drift 131 = .ok (.iload 6, 2) := by decide +kernel
theorem dX6_drift_133 : decode cX6_drift 133 = .ok (.iload 7, 2) := by decide +kernel
theorem dX6_drift_135 : decode cX6_drift 135 = .ok (.iadd, 1) := by decide +kernel
theorem dX6_drift_136 : decode cX6_drift 136 = .ok (.istore 6, 2) := by decide +kernel
theorem dX6_drift_138 : decode cX6_drift 138 = .ok (.iinc 8 1, 3) := by decide +kernel
theorem dX6_drift_141 : decode cX6_drift 141 = .ok (.goto (-82), 3) := by decide +kernel
theorem dX6_drift_144 : decode cX6_drift 144 = .ok (.iload_n 3, 1) := by decide +kernel
theorem dX6_drift_145 : decode cX6_drift 145 = .ok (.ifCond .ne 8, 3) := by decide +kernel
theorem dX6_drift_148 : decode cX6_drift 148 = .ok (.iload 6, 2) := by decide +kernel
theorem dX6_drift_150 : decode cX6_drift 150 = .ok (.goto 5, 3) := by decide +kernel
theorem dX6_drift_153 : decode cX6_drift 153 = .ok (.iload 7, 2) := by decide +kernel
theorem dX6_drift_155 : decode cX6_drift 155 = .ok (.ireturn, 1) := by decide +kernel
theorem dX6_keep_0 : decode cX6_keep 0 = .ok (.aload_n 0, 1) := by decide +kernel
theorem dX6_keep_1 : decode cX6_keep 1 = .ok (.iload_n 1, 1) := by decide +kernel
theorem dX6_keep_2 : decode cX6_keep 2 = .ok (.invokevirtual 273, 3) := by decide +kernel
theorem dX6_keep_5 : decode cX6_keep 5 = .ok (.ifCond .ne 5, 3) := by decide +kernel
theorem dX6_keep_8 : decode cX6_keep 8 = .ok (.iconst (-1), 1) := by decide +kernel
theorem dX6_keep_9 : decode cX6_keep 9 = .ok (.ireturn, 1) := by decide +kernel
theorem dX6_keep_10 : decode cX6_keep 10 = .ok (.aload_n 0, 1) := by decide +kernel
theorem dX6_keep_11 : decode cX6_keep 11 = .ok (.iload_n 1, 1) := by decide +kernel
theorem dX6_keep_12 : decode cX6_keep 12 = .ok (.invokevirtual 276, 3) := by decide +kernel
theorem dX6_keep_15 : decode cX6_keep 15 = .ok (.ifCond .eq 7, 3) := by decide +kernel
theorem dX6_keep_18 : decode cX6_keep 18 = .ok (.iconst 1, 1) := by decide +kernel
theorem dX6_keep_19 : decode cX6_keep 19 = .ok (.goto 4, 3) := by decide +kernel
theorem dX6_keep_22 : decode cX6_keep 22 = .ok (.iconst 0, 1) := by decide +kernel
theorem dX6_keep_23 : decode cX6_keep 23 = .ok (.istore_n 2, 1) := by decide +kernel
theorem dX6_keep_24 : decode cX6_keep 24 = .ok (.aload_n 0, 1) := by decide +kernel
theorem dX6_keep_25 : decode cX6_keep 25 = .ok (.getfield 19, 3) := by decide +kernel
theorem dX6_keep_28 : decode cX6_keep 28 = .ok (.iload_n 1, 1) := by decide +kernel
theorem dX6_keep_29 : decode cX6_keep 29 = .ok (.aaload, 1) := by decide +kernel
theorem dX6_keep_30 : decode cX6_keep 30 = .ok (.aload_n 0, 1) := by decide +kernel
theorem dX6_keep_31 : decode cX6_keep 31 = .ok (.getfield 10, 3) := by decide +kernel
theorem dX6_keep_34 : decode cX6_keep 34 = .ok (.invokevirtual 85, 3) := by decide +kernel
theorem dX6_keep_37 : decode cX6_keep 37 = .ok (.aload_n 0, 1) := by decide +kernel
theorem dX6_keep_38 : decode cX6_keep 38 = .ok (.dup, 1) := by decide +kernel
theorem dX6_keep_39 : decode cX6_keep 39 = .ok (.getfield 90, 3) := by decide +kernel
theorem dX6_keep_42 : decode cX6_keep 42 = .ok (.iconst 1, 1) := by decide +kernel
theorem dX6_keep_43 : decode cX6_keep 43 = .ok (.iload_n 1, 1) := by decide +kernel
theorem dX6_keep_44 : decode cX6_keep 44 = .ok (.ishl, 1) := by decide +kernel
theorem dX6_keep_45 : decode cX6_keep 45 = .ok (.ior, 1) := by decide +kernel
theorem dX6_keep_46 : decode cX6_keep 46 = .ok (.putfield 90, 3) := by decide +kernel
theorem dX6_keep_49 : decode cX6_keep 49 = .ok (.iload_n 2, 1) := by decide +kernel
theorem dX6_keep_50 : decode cX6_keep 50 = .ok (.ireturn, 1) := by decide +kernel
theorem dX6_back_0 : decode cX6_back 0 = .ok (.aload_n 0, 1) := by decide +kernel
theorem dX6_back_1 : decode cX6_back 1 = .ok (.iload_n 1, 1) := by decide +kernel
theorem dX6_back_2 : decode cX6_back 2 = .ok (.invokevirtual 273, 3) := by decide +kernel
theorem dX6_back_5 : decode cX6_back 5 = .ok (.ifCond .ne 5, 3) := by decide +kernel
theorem dX6_back_8 : decode cX6_back 8 = .ok (.iconst (-1), 1) := by decide +kernel
theorem dX6_back_9 : decode cX6_back 9 = .ok (.ireturn, 1) := by decide +kernel
theorem dX6_back_10 : decode cX6_back 10 = .ok (.aload_n 0, 1) := by decide +kernel
theorem dX6_back_11 : decode cX6_back 11 = .ok (.iload_n 1, 1) := by decide +kernel
theorem dX6_back_12 : decode cX6_back 12 = .ok (.invokevirtual 276, 3) := by decide +kernel
theorem dX6_back_15 : decode cX6_back 15 = .ok (.ifCond .ne 6, 3) := by decide +kernel
theorem dX6_back_18 : decode cX6_back 18 = .ok (.bipush (-2), 2) := by decide +kernel
theorem dX6_back_20 : decode cX6_back 20 = .ok (.ireturn, 1) := by decide +kernel
theorem dX6_back_21 : decode cX6_back 21 = .ok (.aload_n 0, 1) := by decide +kernel
theorem dX6_back_22 : decode cX6_back 22 = .ok (.getfield 10, 3) := by decide +kernel
theorem dX6_back_25 : decode cX6_back 25 = .ok (.aload_n 0, 1) := by decide +kernel
theorem dX6_back_26 : decode cX6_back 26 = .ok (.getfield 19, 3) := by decide +kernel
theorem dX6_back_29 : decode cX6_back 29 = .ok (.iload_n 1, 1) := by decide +kernel
theorem dX6_back_30 : decode cX6_back 30 = .ok (.aaload, 1) := by decide +kernel
theorem dX6_back_31 : decode cX6_back 31 = .ok (.invokevirtual 85, 3) := by decide +kernel
theorem dX6_back_34 : decode cX6_back 34 = .ok (.aload_n 0, 1) := by decide +kernel
theorem dX6_back_35 : decode cX6_back 35 = .ok (.getfield 10, 3) := by decide +kernel
theorem dX6_back_38 : decode cX6_back 38 = .ok (.invokevirtual 108, 3) := by decide +kernel
theorem dX6_back_41 : decode cX6_back 41 = .ok (.ireturn, 1) := by decide +kernel
theorem dX6_sheet_0 : decode cX6_sheet 0 = .ok (.aload_n 0, 1) := by decide +kernel
theorem dX6_sheet_1 : decode cX6_sheet 1 = .ok (.iload_n 1, 1) := by decide +kernel
theorem dX6_sheet_2 : decode cX6_sheet 2 = .ok (.invokevirtual 279, 3) := by decide +kernel
theorem dX6_sheet_5 : decode cX6_sheet 5 = .ok (.ifCond .eq 16, 3) := by decide +kernel
theorem dX6_sheet_8 : decode cX6_sheet 8 = .ok (.iload_n 2, 1) := by decide +kernel
theorem dX6_sheet_9 : decode cX6_sheet 9 = .ok (.invokestatic 282, 3) := by decide +kernel
theorem dX6_sheet_12 : decode cX6_sheet 12 = .ok (.ifCond .eq 9, 3) := by decide +kernel
theorem dX6_sheet_15 : decode cX6_sheet 15 = .ok (.iload_n 3, 1) := by decide +kernel
theorem dX6_sheet_16 : decode cX6_sheet 16 = .ok (.bipush 40, 2) := by decide +kernel
theorem dX6_sheet_18 : decode cX6_sheet 18 = .ok (.if_icmp .le 5, 3) := by decide +kernel
theorem dX6_sheet_21 : decode cX6_sheet 21 = .ok (.iconst (-1), 1) := by decide +kernel
theorem dX6_sheet_22 : decode cX6_sheet 22 = .ok (.ireturn, 1) := by decide +kernel
theorem dX6_sheet_23 : decode cX6_sheet 23 = .ok (.iload_n 3, 1) := by decide +kernel
theorem dX6_sheet_24 : decode cX6_sheet 24 = .ok (.ifCond .ge 6, 3) := by decide +kernel
theorem dX6_sheet_27 : decode cX6_sheet 27 = .ok (.bipush (-14), 2) := by decide +kernel
theorem dX6_sheet_29 : decode cX6_sheet 29 = .ok (.ireturn, 1) := by decide +kernel
theorem dX6_sheet_30 : decode cX6_sheet 30 = .ok (.aload_n 0, 1) := by decide +kernel
theorem dX6_sheet_31 : decode cX6_sheet 31 = .ok (.getfield 47, 3) := by decide +kernel
theorem dX6_sheet_34 : decode cX6_sheet 34 = .ok (.iload_n 1, 1) := by decide +kernel
theorem dX6_sheet_35 : decode cX6_sheet 35 = .ok (.aaload, 1) := by decide +kernel
theorem dX6_sheet_36 : decode cX6_sheet 36 = .ok (.iload_n 2, 1) := by decide +kernel
theorem dX6_sheet_37 : decode cX6_sheet 37 = .ok (.iload_n 3, 1) := by decide +kernel
theorem dX6_sheet_38 : decode cX6_sheet 38 = .ok (.invokevirtual 285, 3) := by decide +kernel
theorem dX6_sheet_41 : decode cX6_sheet 41 = .ok (.iconst 1, 1) := by decide +kernel
theorem dX6_sheet_42 : decode cX6_sheet 42 = .ok (.ireturn, 1) := by decide +kernel
theorem dX6_lay_0 : decode cX6_lay 0 = .ok (.aload_n 0, 1) := by decide +kernel
theorem dX6_lay_1 : decode cX6_lay 1 = .ok (.iload_n 1, 1) := by decide +kernel
theorem dX6_lay_2 : decode cX6_lay 2 = .ok (.invokevirtual 279, 3) := by decide +kernel
theorem dX6_lay_5 : decode cX6_lay 5 = .ok (.ifCond .ne 5, 3) := by decide +kernel
theorem dX6_lay_8 : decode cX6_lay 8 = .ok (.iconst (-1), 1) := by decide +kernel
theorem dX6_lay_9 : decode cX6_lay 9 = .ok (.ireturn, 1) := by decide +kernel
theorem dX6_lay_10 : decode cX6_lay 10 = .ok (.aload_n 0, 1) := by decide +kernel
theorem dX6_lay_11 : decode cX6_lay 11 = .ok (.getfield 47, 3) := by decide +kernel
theorem dX6_lay_14 : decode cX6_lay 14 = .ok (.iload_n 1, 1) := by decide +kernel
theorem dX6_lay_15 : decode cX6_lay 15 = .ok (.aaload, 1) := by decide +kernel
theorem dX6_lay_16 : decode cX6_lay 16 = .ok (.iload_n 2, 1) := by decide +kernel
theorem dX6_lay_17 : decode cX6_lay 17 = .ok (.iconst 1, 1) := by decide +kernel
theorem dX6_lay_18 : decode cX6_lay 18 = .ok (.invokevirtual 288, 3) := by decide +kernel
theorem dX6_lay_21 : decode cX6_lay 21 = .ok (.istore 4, 2) := by decide +kernel
theorem dX6_lay_23 : decode cX6_lay 23 = .ok (.iload 4, 2) := by decide +kernel
theorem dX6_lay_25 : decode cX6_lay 25 = .ok (.ifCond .eq 9, 3) := by decide +kernel
theorem dX6_lay_28 : decode cX6_lay 28 = .ok (.bipush (-10), 2) := by decide +kernel
theorem dX6_lay_30 : decode cX6_lay 30 = .ok (.iload 4, 2) := by decide +kernel
theorem dX6_lay_32 : decode cX6_lay 32 = .ok (.isub, 1) := by decide +kernel
theorem dX6_lay_33 : decode cX6_lay 33 = .ok (.ireturn, 1) := by decide +kernel
theorem dX6_lay_34 : decode cX6_lay 34 = .ok (.aload_n 0, 1) := by decide +kernel
theorem dX6_lay_35 : decode cX6_lay 35 = .ok (.getfield 47, 3) := by decide +kernel
theorem dX6_lay_38 : decode cX6_lay 38 = .ok (.iload_n 1, 1) := by decide +kernel
theorem dX6_lay_39 : decode cX6_lay 39 = .ok (.aaload, 1) := by decide +kernel
theorem dX6_lay_40 : decode cX6_lay 40 = .ok (.iload_n 2, 1) := by decide +kernel
theorem dX6_lay_41 : decode cX6_lay 41 = .ok (.iload_n 3, 1) := by decide +kernel
theorem dX6_lay_42 : decode cX6_lay 42 = .ok (.invokevirtual 291, 3) := by decide +kernel
theorem dX6_lay_45 : decode cX6_lay 45 = .ok (.iconst 1, 1) := by decide +kernel
theorem dX6_lay_46 : decode cX6_lay 46 = .ok (.ireturn, 1) := by decide +kernel
theorem dX6_read_0 : decode cX6_read 0 = .ok (.aload_n 0, 1) := by decide +kernel
theorem dX6_read_1 : decode cX6_read 1 = .ok (.iload_n 1, 1) := by decide +kernel
theorem dX6_read_2 : decode cX6_read 2 = .ok (.invokevirtual 279, 3) := by decide +kernel
theorem dX6_read_5 : decode cX6_read 5 = .ok (.ifCond .eq 21, 3) := by decide +kernel
theorem dX6_read_8 : decode cX6_read 8 = .ok (.iload_n 2, 1) := by decide +kernel
theorem dX6_read_9 : decode cX6_read 9 = .ok (.invokestatic 282, 3) := by decide +kernel
theorem dX6_read_12 : decode cX6_read 12 = .ok (.ifCond .eq 14, 3) := by decide +kernel
theorem dX6_read_15 : decode cX6_read 15 = .ok (.iload 4, 2) := by decide +kernel
theorem dX6_read_17 : decode cX6_read 17 = .ok (.iconst 0, 1) := by decide +kernel
theorem dX6_read_18 : decode cX6_read 18 = .ok (.bipush 13, 2) := by decide +kernel
theorem dX6_read_20 : decode cX6_read 20 = .ok (.invokestatic 51, 3) := by decide +kernel
theorem dX6_read_23 : decode cX6_read 23 = .ok (.ifCond .ne 5, 3) := by decide +kernel
theorem dX6_read_26 : decode cX6_read 26 = .ok (.iconst (-1), 1) := by decide +kernel
theorem dX6_read_27 : decode cX6_read 27 = .ok (.ireturn, 1) := by decide +kernel
theorem dX6_read_28 : decode cX6_read 28 = .ok (.aload_n 0, 1) := by decide +kernel
theorem dX6_read_29 : decode cX6_read 29 = .ok (.getfield 47, 3) := by decide +kernel
theorem dX6_read_32 : decode cX6_read 32 = .ok (.iload_n 1, 1) := by decide +kernel
theorem dX6_read_33 : decode cX6_read 33 = .ok (.aaload, 1) := by decide +kernel
theorem dX6_read_34 : decode cX6_read 34 = .ok (.astore 5, 2) := by decide +kernel
theorem dX6_read_36 : decode cX6_read 36 = .ok (.aload_n 0, 1) := by decide +kernel
theorem dX6_read_37 : decode cX6_read 37 = .ok (.getfield 10, 3) := by decide +kernel
theorem dX6_read_40 : decode cX6_read 40 = .ok (.getfield 102, 3) := by decide +kernel
theorem dX6_read_43 : decode cX6_read 43 = .ok (.istore 6, 2) := by decide +kernel
theorem dX6_read_45 : decode cX6_read 45 = .ok (.iconst 0, 1) := by decide +kernel
theorem dX6_read_46 : decode cX6_read 46 = .ok (.istore 7, 2) := by decide +kernel
theorem dX6_read_48 : decode cX6_read 48 = .ok (.iconst 0, 1) := by decide +kernel
theorem dX6_read_49 : decode cX6_read 49 = .ok (.istore 8, 2) := by decide +kernel
theorem dX6_read_51 : decode cX6_read 51 = .ok (.iload 8, 2) := by decide +kernel
theorem dX6_read_53 : decode cX6_read 53 = .ok (.iload 4, 2) := by decide +kernel
theorem dX6_read_55 : decode cX6_read 55 = .ok (.if_icmp .ge 88, 3) := by decide +kernel
theorem dX6_read_58 : decode cX6_read 58 = .ok (.iload 7, 2) := by decide +kernel
theorem dX6_read_60 : decode cX6_read 60 = .ok (.ifCond .ne 83, 3) := by decide +kernel
theorem dX6_read_63 : decode cX6_read 63 = .ok (.iload_n 3, 1) := by decide +kernel
theorem dX6_read_64 : decode cX6_read 64 = .ok (.iconst 3, 1) := by decide +kernel
theorem dX6_read_65 : decode cX6_read 65 = .ok (.iload 8, 2) := by decide +kernel
theorem dX6_read_67 : decode cX6_read 67 = .ok (.imul, 1) := by decide +kernel
theorem dX6_read_68 : decode cX6_read 68 = .ok (.iadd, 1) := by decide +kernel
theorem dX6_read_69 : decode cX6_read 69 = .ok (.istore 9, 2) := by decide +kernel
theorem dX6_read_71 : decode cX6_read 71 = .ok (.aload 5, 2) := by decide +kernel
theorem dX6_read_73 : decode cX6_read 73 = .ok (.iload_n 2, 1) := by decide +kernel
theorem dX6_read_74 : decode cX6_read 74 = .ok (.iload 9, 2) := by decide +kernel
theorem dX6_read_76 : decode cX6_read 76 = .ok (.invokevirtual 294, 3) := by decide +kernel
theorem dX6_read_79 : decode cX6_read 79 = .ok (.istore 7, 2) := by decide +kernel
theorem dX6_read_81 : decode cX6_read 81 = .ok (.iload 7, 2) := by decide +kernel
theorem dX6_read_83 : decode cX6_read 83 = .ok (.ifCond .ne 57, 3) := by decide +kernel
theorem dX6_read_86 : decode cX6_read 86 = .ok (.aload_n 0, 1) := by decide +kernel
theorem dX6_read_87 : decode cX6_read 87 = .ok (.aload 5, 2) := by decide +kernel
theorem dX6_read_89 : decode cX6_read 89 = .ok (.getfield 297, 3) := by decide +kernel
theorem dX6_read_92 : decode cX6_read 92 = .ok (.iload 9, 2) := by decide +kernel
theorem dX6_read_94 : decode cX6_read 94 = .ok (.iaload, 1) := by decide +kernel
theorem dX6_read_95 : decode cX6_read 95 = .ok (.aload 5, 2) := by decide +kernel
theorem dX6_read_97 : decode cX6_read 97 = .ok (.getfield 297, 3) := by decide +kernel
theorem dX6_read_100 : decode cX6_read 100 = .ok (.iload 9, 2) := by decide +kernel
theorem dX6_read_102 : decode cX6_read 102 = .ok (.iconst 1, 1) := by decide +kernel
theorem dX6_read_103 : decode cX6_read 103 = .ok (.iadd, 1) := by decide +kernel
theorem dX6_read_104 : decode cX6_read 104 = .ok (.iaload, 1) := by decide +kernel
theorem dX6_read_105 : decode cX6_read 105 = .ok (.aload 5, 2) := by decide +kernel
theorem dX6_read_107 : decode cX6_read 107 = .ok (.getfield 297, 3) := by decide +kernel
theorem dX6_read_110 : decode cX6_read 110 = .ok (.iload 9, 2) := by decide +kernel
theorem dX6_read_112 : decode cX6_read 112 = .ok (.iconst 2, 1) := by decide +kernel
theorem dX6_read_113 : decode cX6_read 113 = .ok (.iadd, 1) := by decide +kernel
theorem dX6_read_114 : decode cX6_read 114 = .ok (.iaload, 1) := by decide +kernel
theorem dX6_read_115 : decode cX6_read 115 = .ok (.invokevirtual 300, 3) := by decide +kernel
theorem dX6_read_118 : decode cX6_read 118 = .ok (.ifCond .ge 19, 3) := by decide +kernel
theorem dX6_read_121 : decode cX6_read 121 = .ok (.aload_n 0, 1) := by decide +kernel
theorem dX6_read_122 : decode cX6_read 122 = .ok (.getfield 10, 3) := by decide +kernel
theorem dX6_read_125 : decode cX6_read 125 = .ok (.iload 6, 2) := by decide +kernel
theorem dX6_read_127 : decode cX6_read 127 = .ok (.invokevirtual 184, 3) := by decide +kernel
theorem dX6_read_130 : decode cX6_read 130 = .ok (.pop, 1) := by decide +kernel
theorem dX6_read_131 : decode cX6_read 131 = .ok (.bipush (-20), 2) := by decide +kernel
theorem dX6_read_133 : decode cX6_read 133 = .ok (.iload 8, 2) := by decide +kernel
theorem dX6_read_135 : decode cX6_read 135 = .ok (.isub, 1) := by decide +kernel
theorem dX6_read_136 : decode cX6_read 136 = .ok (.ireturn, 1) := by decide +kernel
theorem dX6_read_137 : decode cX6_read 137 = .ok (.iinc 8 1, 3) := by decide +kernel
theorem dX6_read_140 : decode cX6_read 140 = .ok (.goto (-89), 3) := by decide +kernel
theorem dX6_read_143 : decode cX6_read 143 = .ok (.aload_n 0, 1) := by decide +kernel
theorem dX6_read_144 : decode cX6_read 144 = .ok (.iload 7, 2) := by decide +kernel
theorem dX6_read_146 : decode cX6_read 146 = .ok (.putfield 303, 3) := by decide +kernel
theorem dX6_read_149 : decode cX6_read 149 = .ok (.iload 8, 2) := by decide +kernel
theorem dX6_read_151 : decode cX6_read 151 = .ok (.ireturn, 1) := by decide +kernel
theorem dX6_torn_0 : decode cX6_torn 0 = .ok (.aload_n 0, 1) := by decide +kernel
theorem dX6_torn_1 : decode cX6_torn 1 = .ok (.getfield 303, 3) := by decide +kernel
theorem dX6_torn_4 : decode cX6_torn 4 = .ok (.ireturn, 1) := by decide +kernel
theorem dX6_count_0 : decode cX6_count 0 = .ok (.iload_n 1, 1) := by decide +kernel
theorem dX6_count_1 : decode cX6_count 1 = .ok (.tableswitch 129 0 5 #[39, 47, 55, 66, 93, 111], 39) := by decide +kernel
theorem dX6_count_40 : decode cX6_count 40 = .ok (.aload_n 0, 1) := by decide +kernel
theorem dX6_count_41 : decode cX6_count 41 = .ok (.getfield 40, 3) := by decide +kernel
theorem dX6_count_44 : decode cX6_count 44 = .ok (.getfield 257, 3) := by decide +kernel
theorem dX6_count_47 : decode cX6_count 47 = .ok (.ireturn, 1) := by decide +kernel
theorem dX6_count_48 : decode cX6_count 48 = .ok (.aload_n 0, 1) := by decide +kernel
theorem dX6_count_49 : decode cX6_count 49 = .ok (.getfield 90, 3) := by decide +kernel
theorem dX6_count_52 : decode cX6_count 52 = .ok (.invokestatic 218, 3) := by decide +kernel
theorem dX6_count_55 : decode cX6_count 55 = .ok (.ireturn, 1) := by decide +kernel
theorem dX6_count_56 : decode cX6_count 56 = .ok (.aload_n 0, 1) := by decide +kernel
theorem dX6_count_57 : decode cX6_count 57 = .ok (.getfield 33, 3) := by decide +kernel
theorem dX6_count_60 : decode cX6_count 60 = .ok (.getfield 55, 3) := by decide +kernel
theorem dX6_count_63 : decode cX6_count 63 = .ok (.getfield 65, 3) := by decide +kernel
theorem dX6_count_66 : decode cX6_count 66 = .ok (.ireturn, 1) := by decide +kernel
theorem dX6_count_67 : decode cX6_count 67 = .ok (.aload_n 0, 1) := by decide +kernel
theorem dX6_count_68 : decode cX6_count 68 = .ok (.getfield 47, 3) := by decide +kernel
theorem dX6_count_71 : decode cX6_count 71 = .ok (.iconst 0, 1) := by decide +kernel
theorem dX6_count_72 : decode cX6_count 72 = .ok (.aaload, 1) := by decide +kernel
theorem dX6_count_73 : decode cX6_count 73 = .ok (.invokevirtual 306, 3) := by decide +kernel
theorem dX6_count_76 : decode cX6_count 76 = .ok (.ifCond .eq 8, 3) := by decide +kernel
theorem dX6_count_79 : decode cX6_count 79 = .ok (.bipush (-4), 2) := by decide +kernel
theorem dX6_count_81 : decode cX6_count 81 = .ok (.goto 12, 3) := by decide +kernel
theorem dX6_count_84 : decode cX6_count 84 = .ok (.aload_n 0, 1) := by decide +kernel
theorem dX6_count_85 : decode cX6_count 85 = .ok (.getfield 47, 3) := by decide +kernel
theorem dX6_count_88 : decode cX6_count 88 = .ok (.iconst 0, 1) := by decide +kernel
theorem dX6_count_89 : decode cX6_count 89 = .ok (.aaload, 1) := by decide +kernel
theorem dX6_count_90 : decode cX6_count 90 = .ok (.getfield 309, 3) := by decide +kernel
theorem dX6_count_93 : decode cX6_count 93 = .ok (.ireturn, 1) := by decide +kernel
theorem dX6_count_94 : decode cX6_count 94 = .ok (.aload_n 0, 1) := by decide +kernel
theorem dX6_count_95 : decode cX6_count 95 = .ok (.getfield 10, 3) := by decide +kernel
theorem dX6_count_98 : decode cX6_count 98 = .ok (.getfield 96, 3) := by decide +kernel
theorem dX6_count_101 : decode cX6_count 101 = .ok (.aload_n 0, 1) := by decide +kernel
theorem dX6_count_102 : decode cX6_count 102 = .ok (.getfield 10, 3) := by decide +kernel
theorem dX6_count_105 : decode cX6_count 105 = .ok (.getfield 137, 3) := by decide +kernel
theorem dX6_count_108 : decode cX6_count 108 = .ok (.invokestatic 310, 3) := by decide +kernel
theorem dX6_count_111 : decode cX6_count 111 = .ok (.ireturn, 1) := by decide +kernel
theorem dX6_count_112 : decode cX6_count 112 = .ok (.aload_n 0, 1) := by decide +kernel
theorem dX6_count_113 : decode cX6_count 113 = .ok (.getfield 10, 3) := by decide +kernel
theorem dX6_count_116 : decode cX6_count 116 = .ok (.getfield 102, 3) := by decide +kernel
theorem dX6_count_119 : decode cX6_count 119 = .ok (.aload_n 0, 1) := by decide +kernel
theorem dX6_count_120 : decode cX6_count 120 = .ok (.getfield 10, 3) := by decide +kernel
theorem dX6_count_123 : decode cX6_count 123 = .ok (.getfield 152, 3) := by decide +kernel
theorem dX6_count_126 : decode cX6_count 126 = .ok (.invokestatic 310, 3) := by decide +kernel
theorem dX6_count_129 : decode cX6_count 129 = .ok (.ireturn, 1) := by decide +kernel
theorem dX6_count_130 : decode cX6_count 130 = .ok (.iconst (-1), 1) := by decide +kernel
theorem dX6_count_131 : decode cX6_count 131 = .ok (.ireturn, 1) := by decide +kernel
theorem dX6_within_0 : decode cX6_within 0 = .ok (.iload_n 0, 1) := by decide +kernel
theorem dX6_within_1 : decode cX6_within 1 = .ok (.iload_n 1, 1) := by decide +kernel
theorem dX6_within_2 : decode cX6_within 2 = .ok (.if_icmp .lt 12, 3) := by decide +kernel
theorem dX6_within_5 : decode cX6_within 5 = .ok (.iload_n 0, 1) := by decide +kernel
theorem dX6_within_6 : decode cX6_within 6 = .ok (.iload_n 2, 1) := by decide +kernel
theorem dX6_within_7 : decode cX6_within 7 = .ok (.if_icmp .gt 7, 3) := by decide +kernel
theorem dX6_within_10 : decode cX6_within 10 = .ok (.iconst 1, 1) := by decide +kernel
theorem dX6_within_11 : decode cX6_within 11 = .ok (.goto 4, 3) := by decide +kernel
theorem dX6_within_14 : decode cX6_within 14 = .ok (.iconst 0, 1) := by decide +kernel
theorem dX6_within_15 : decode cX6_within 15 = .ok (.ireturn, 1) := by decide +kernel
theorem dX6_isBreath_0 : decode cX6_isBreath 0 = .ok (.iload_n 0, 1) := by decide +kernel
theorem dX6_isBreath_1 : decode cX6_isBreath 1 = .ok (.iconst 1, 1) := by decide +kernel
theorem dX6_isBreath_2 : decode cX6_isBreath 2 = .ok (.bipush 60, 2) := by decide +kernel
theorem dX6_isBreath_4 : decode cX6_isBreath 4 = .ok (.invokestatic 51, 3) := by decide +kernel
theorem dX6_isBreath_7 : decode cX6_isBreath 7 = .ok (.ireturn, 1) := by decide +kernel
theorem dX6_isLength_0 : decode cX6_isLength 0 = .ok (.iload_n 0, 1) := by decide +kernel
theorem dX6_isLength_1 : decode cX6_isLength 1 = .ok (.iconst 1, 1) := by decide +kernel
theorem dX6_isLength_2 : decode cX6_isLength 2 = .ok (.bipush 9, 2) := by decide +kernel
theorem dX6_isLength_4 : decode cX6_isLength 4 = .ok (.invokestatic 51, 3) := by decide +kernel
theorem dX6_isLength_7 : decode cX6_isLength 7 = .ok (.ireturn, 1) := by decide +kernel
theorem dX6_isTenths_0 : decode cX6_isTenths 0 = .ok (.iload_n 0, 1) := by decide +kernel
theorem dX6_isTenths_1 : decode cX6_isTenths 1 = .ok (.iconst 0, 1) := by decide +kernel
theorem dX6_isTenths_2 : decode cX6_isTenths 2 = .ok (.bipush 10, 2) := by decide +kernel
theorem dX6_isTenths_4 : decode cX6_isTenths 4 = .ok (.invokestatic 51, 3) := by decide +kernel
theorem dX6_isTenths_7 : decode cX6_isTenths 7 = .ok (.ireturn, 1) := by decide +kernel
theorem dX6_isEither_0 : decode cX6_isEither 0 = .ok (.iload_n 0, 1) := by decide +kernel
theorem dX6_isEither_1 : decode cX6_isEither 1 = .ok (.iconst 0, 1) := by decide +kernel
theorem dX6_isEither_2 : decode cX6_isEither 2 = .ok (.iconst 1, 1) := by decide +kernel
theorem dX6_isEither_3 : decode cX6_isEither 3 = .ok (.invokestatic 51, 3) := by decide +kernel
theorem dX6_isEither_6 : decode cX6_isEither 6 = .ok (.ireturn, 1) := by decide +kernel
theorem dX6_isLane_0 : decode cX6_isLane 0 = .ok (.iload_n 0, 1) := by decide +kernel
theorem dX6_isLane_1 : decode cX6_isLane 1 = .ok (.iconst 0, 1) := by decide +kernel
theorem dX6_isLane_2 : decode cX6_isLane 2 = .ok (.iconst 2, 1) := by decide +kernel
theorem dX6_isLane_3 : decode cX6_isLane 3 = .ok (.invokestatic 51, 3) := by decide +kernel
theorem dX6_isLane_6 : decode cX6_isLane 6 = .ok (.ireturn, 1) := by decide +kernel
theorem dX6_isImage_0 : decode cX6_isImage 0 = .ok (.iload_n 1, 1) := by decide +kernel
theorem dX6_isImage_1 : decode cX6_isImage 1 = .ok (.iconst 0, 1) := by decide +kernel
theorem dX6_isImage_2 : decode cX6_isImage 2 = .ok (.aload_n 0, 1) := by decide +kernel
theorem dX6_isImage_3 : decode cX6_isImage 3 = .ok (.getfield 19, 3) := by decide +kernel
theorem dX6_isImage_6 : decode cX6_isImage 6 = .ok (.arraylength, 1) := by decide +kernel
theorem dX6_isImage_7 : decode cX6_isImage 7 = .ok (.iconst 1, 1) := by decide +kernel
theorem dX6_isImage_8 : decode cX6_isImage 8 = .ok (.isub, 1) := by decide +kernel
theorem dX6_isImage_9 : decode cX6_isImage 9 = .ok (.invokestatic 51, 3) := by decide +kernel
theorem dX6_isImage_12 : decode cX6_isImage 12 = .ok (.ireturn, 1) := by decide +kernel
theorem dX6_isKept_0 : decode cX6_isKept 0 = .ok (.aload_n 0, 1) := by decide +kernel
theorem dX6_isKept_1 : decode cX6_isKept 1 = .ok (.getfield 90, 3) := by decide +kernel
theorem dX6_isKept_4 : decode cX6_isKept 4 = .ok (.iconst 1, 1) := by decide +kernel
theorem dX6_isKept_5 : decode cX6_isKept 5 = .ok (.iload_n 1, 1) := by decide +kernel
theorem dX6_isKept_6 : decode cX6_isKept 6 = .ok (.ishl, 1) := by decide +kernel
theorem dX6_isKept_7 : decode cX6_isKept 7 = .ok (.iand, 1) := by decide +kernel
theorem dX6_isKept_8 : decode cX6_isKept 8 = .ok (.ifCond .eq 7, 3) := by decide +kernel
theorem dX6_isKept_11 : decode cX6_isKept 11 = .ok (.iconst 1, 1) := by decide +kernel
theorem dX6_isKept_12 : decode cX6_isKept 12 = .ok (.goto 4, 3) := by decide +kernel
theorem dX6_isKept_15 : decode cX6_isKept 15 = .ok (.iconst 0, 1) := by decide +kernel
theorem dX6_isKept_16 : decode cX6_isKept 16 = .ok (.ireturn, 1) := by decide +kernel
theorem dX6_isSheet_0 : decode cX6_isSheet 0 = .ok (.iload_n 1, 1) := by decide +kernel
theorem dX6_isSheet_1 : decode cX6_isSheet 1 = .ok (.iconst 0, 1) := by decide +kernel
theorem dX6_isSheet_2 : decode cX6_isSheet 2 = .ok (.aload_n 0, 1) := by decide +kernel
theorem dX6_isSheet_3 : decode cX6_isSheet 3 = .ok (.getfield 47, 3) := by decide +kernel
theorem dX6_isSheet_6 : decode cX6_isSheet 6 = .ok (.arraylength, 1) := by decide +kernel
theorem dX6_isSheet_7 : decode cX6_isSheet 7 = .ok (.iconst 1, 1) := by decide +kernel
theorem dX6_isSheet_8 : decode cX6_isSheet 8 = .ok (.isub, 1) := by decide +kernel
theorem dX6_isSheet_9 : decode cX6_isSheet 9 = .ok (.invokestatic 51, 3) := by decide +kernel
theorem dX6_isSheet_12 : decode cX6_isSheet 12 = .ok (.ireturn, 1) := by decide +kernel
theorem dX6_exchange_0 : decode cX6_exchange 0 = .ok (.aload_n 0, 1) := by decide +kernel
theorem dX6_exchange_1 : decode cX6_exchange 1 = .ok (.iload_n 1, 1) := by decide +kernel
theorem dX6_exchange_2 : decode cX6_exchange 2 = .ok (.iaload, 1) := by decide +kernel
theorem dX6_exchange_3 : decode cX6_exchange 3 = .ok (.istore_n 3, 1) := by decide +kernel
theorem dX6_exchange_4 : decode cX6_exchange 4 = .ok (.aload_n 0, 1) := by decide +kernel
theorem dX6_exchange_5 : decode cX6_exchange 5 = .ok (.iload_n 1, 1) := by decide +kernel
theorem dX6_exchange_6 : decode cX6_exchange 6 = .ok (.iload_n 2, 1) := by decide +kernel
theorem dX6_exchange_7 : decode cX6_exchange 7 = .ok (.iastore, 1) := by decide +kernel
theorem dX6_exchange_8 : decode cX6_exchange 8 = .ok (.iload_n 3, 1) := by decide +kernel
theorem dX6_exchange_9 : decode cX6_exchange 9 = .ok (.ireturn, 1) := by decide +kernel
theorem dX6_sumOfFirst_0 : decode cX6_sumOfFirst 0 = .ok (.iconst 0, 1) := by decide +kernel
theorem dX6_sumOfFirst_1 : decode cX6_sumOfFirst 1 = .ok (.istore_n 2, 1) := by decide +kernel
theorem dX6_sumOfFirst_2 : decode cX6_sumOfFirst 2 = .ok (.iconst 0, 1) := by decide +kernel
theorem dX6_sumOfFirst_3 : decode cX6_sumOfFirst 3 = .ok (.istore_n 3, 1) := by decide +kernel
theorem dX6_sumOfFirst_4 : decode cX6_sumOfFirst 4 = .ok (.iload_n 3, 1) := by decide +kernel
theorem dX6_sumOfFirst_5 : decode cX6_sumOfFirst 5 = .ok (.iload_n 0, 1) := by decide +kernel
theorem dX6_sumOfFirst_6 : decode cX6_sumOfFirst 6 = .ok (.if_icmp .ge 15, 3) := by decide +kernel
theorem dX6_sumOfFirst_9 : decode cX6_sumOfFirst 9 = .ok (.iload_n 2, 1) := by decide +kernel
theorem dX6_sumOfFirst_10 : decode cX6_sumOfFirst 10 = .ok (.aload_n 1, 1) := by decide +kernel
theorem dX6_sumOfFirst_11 : decode cX6_sumOfFirst 11 = .ok (.iload_n 3, 1) := by decide +kernel
theorem dX6_sumOfFirst_12 : decode cX6_sumOfFirst 12 = .ok (.iaload, 1) := by decide +kernel
theorem dX6_sumOfFirst_13 : decode cX6_sumOfFirst 13 = .ok (.iadd, 1) := by decide +kernel
theorem dX6_sumOfFirst_14 : decode cX6_sumOfFirst 14 = .ok (.istore_n 2, 1) := by decide +kernel
theorem dX6_sumOfFirst_15 : decode cX6_sumOfFirst 15 = .ok (.iinc 3 1, 3) := by decide +kernel
theorem dX6_sumOfFirst_18 : decode cX6_sumOfFirst 18 = .ok (.goto (-14), 3) := by decide +kernel
theorem dX6_sumOfFirst_21 : decode cX6_sumOfFirst 21 = .ok (.iload_n 2, 1) := by decide +kernel
theorem dX6_sumOfFirst_22 : decode cX6_sumOfFirst 22 = .ok (.ireturn, 1) := by decide +kernel
theorem dX6_power_0 : decode cX6_power 0 = .ok (.lconst 1, 1) := by decide +kernel
theorem dX6_power_1 : decode cX6_power 1 = .ok (.lstore_n 2, 1) := by decide +kernel
theorem dX6_power_2 : decode cX6_power 2 = .ok (.iconst 0, 1) := by decide +kernel
theorem dX6_power_3 : decode cX6_power 3 = .ok (.istore 4, 2) := by decide +kernel
theorem dX6_power_5 : decode cX6_power 5 = .ok (.iload 4, 2) := by decide +kernel
theorem dX6_power_7 : decode cX6_power 7 = .ok (.iload_n 1, 1) := by decide +kernel
theorem dX6_power_8 : decode cX6_power 8 = .ok (.if_icmp .ge 14, 3) := by decide +kernel
theorem dX6_power_11 : decode cX6_power 11 = .ok (.lload_n 2, 1) := by decide +kernel
theorem dX6_power_12 : decode cX6_power 12 = .ok (.iload_n 0, 1) := by decide +kernel
theorem dX6_power_13 : decode cX6_power 13 = .ok (.i2l, 1) := by decide +kernel
theorem dX6_power_14 : decode cX6_power 14 = .ok (.lmul, 1) := by decide +kernel
theorem dX6_power_15 : decode cX6_power 15 = .ok (.lstore_n 2, 1) := by decide +kernel
theorem dX6_power_16 : decode cX6_power 16 = .ok (.iinc 4 1, 3) := by decide +kernel
theorem dX6_power_19 : decode cX6_power 19 = .ok (.goto (-14), 3) := by decide +kernel
theorem dX6_power_22 : decode cX6_power 22 = .ok (.lload_n 2, 1) := by decide +kernel
theorem dX6_power_23 : decode cX6_power 23 = .ok (.lreturn, 1) := by decide +kernel
theorem dX6_commonDivisor_0 : decode cX6_commonDivisor 0 = .ok (.lload_n 0, 1) := by decide +kernel
theorem dX6_commonDivisor_1 : decode cX6_commonDivisor 1 = .ok (.lstore 4, 2) := by decide +kernel
theorem dX6_commonDivisor_3 : decode cX6_commonDivisor 3 = .ok (.lload_n 2, 1) := by decide +kernel
theorem dX6_commonDivisor_4 : decode cX6_commonDivisor 4 = .ok (.lstore 6, 2) := by decide +kernel
theorem dX6_commonDivisor_6 : decode cX6_commonDivisor 6 = .ok (.iconst 0, 1) := by decide +kernel
theorem dX6_commonDivisor_7 : decode cX6_commonDivisor 7 = .ok (.istore 8, 2) := by decide +kernel
theorem dX6_commonDivisor_9 : decode cX6_commonDivisor 9 = .ok (.iload 8, 2) := by decide +kernel
theorem dX6_commonDivisor_11 : decode cX6_commonDivisor 11 = .ok (.bipush 100, 2) := by decide +kernel
theorem dX6_commonDivisor_13 : decode cX6_commonDivisor 13 = .ok (.if_icmp .ge 31, 3) := by decide +kernel
theorem dX6_commonDivisor_16 : decode cX6_commonDivisor 16 = .ok (.lload 6, 2) := by decide +kernel
theorem dX6_commonDivisor_18 : decode cX6_commonDivisor 18 = .ok (.lconst 0, 1) := by decide +kernel
theorem dX6_commonDivisor_19 : decode cX6_commonDivisor 19 = .ok (.lcmp, 1) := by decide +kernel
theorem dX6_commonDivisor_20 : decode cX6_commonDivisor 20 = .ok (.ifCond .eq 24, 3) := by decide +kernel
theorem dX6_commonDivisor_23 : decode cX6_commonDivisor 23 = .ok (.lload 4, 2) := by decide +kernel
theorem dX6_commonDivisor_25 : decode cX6_commonDivisor 25 = .ok (.lload 6, 2) := by decide +kernel
theorem dX6_commonDivisor_27 : decode cX6_commonDivisor 27 = .ok (.lrem, 1) := by decide +kernel
theorem dX6_commonDivisor_28 : decode cX6_commonDivisor 28 = .ok (.lstore 9, 2) := by decide +kernel
theorem dX6_commonDivisor_30 : decode cX6_commonDivisor 30 = .ok (.lload 6, 2) := by decide +kernel
theorem dX6_commonDivisor_32 : decode cX6_commonDivisor 32 = .ok (.lstore 4, 2) := by decide +kernel
theorem dX6_commonDivisor_34 : decode cX6_commonDivisor 34 = .ok (.lload 9, 2) := by decide +kernel
theorem dX6_commonDivisor_36 : decode cX6_commonDivisor 36 = .ok (.lstore 6, 2) := by decide +kernel
theorem dX6_commonDivisor_38 : decode cX6_commonDivisor 38 = .ok (.iinc 8 1, 3) := by decide +kernel
theorem dX6_commonDivisor_41 : decode cX6_commonDivisor 41 = .ok (.goto (-32), 3) := by decide +kernel
theorem dX6_commonDivisor_44 : decode cX6_commonDivisor 44 = .ok (.lload 4, 2) := by decide +kernel
theorem dX6_commonDivisor_46 : decode cX6_commonDivisor 46 = .ok (.lreturn, 1) := by decide +kernel
theorem dX7_init_0 : decode cX7_init 0 = .ok (.aload_n 0, 1) := by decide +kernel
theorem dX7_init_1 : decode cX7_init 1 = .ok (.invokespecial 1, 3) := by decide +kernel
theorem dX7_init_4 : decode cX7_init 4 = .ok (.aload_n 0, 1) := by decide +kernel
theorem dX7_init_5 : decode cX7_init 5 = .ok (.sipush 315, 3) := by decide +kernel
theorem dX7_init_8 : decode cX7_init 8 = .ok (.newarray .int, 2) := by decide +kernel
theorem dX7_init_10 : decode cX7_init 10 = .ok (.putfield 7, 3) := by decide +kernel
theorem dX7_init_13 : decode cX7_init 13 = .ok (.aload_n 0, 1) := by decide +kernel
theorem dX7_init_14 : decode cX7_init 14 = .ok (.bipush 63, 2) := by decide +kernel
theorem dX7_init_16 : decode cX7_init 16 = .ok (.newarray .int, 2) := by decide +kernel
theorem dX7_init_18 : decode cX7_init 18 = .ok (.putfield 13, 3) := by decide +kernel
theorem dX7_init_21 : decode cX7_init 21 = .ok (.aload_n 0, 1) := by decide +kernel
theorem dX7_init_22 : decode cX7_init 22 = .ok (.sipush 160, 3) := by decide +kernel
theorem dX7_init_25 : decode cX7_init 25 = .ok (.newarray .int, 2) := by decide +kernel
theorem dX7_init_27 : decode cX7_init 27 = .ok (.putfield 16, 3) := by decide +kernel
theorem dX7_init_30 : decode cX7_init 30 = .ok (.aload_n 0, 1) := by decide +kernel
theorem dX7_init_31 : decode cX7_init 31 = .ok (.bipush 8, 2) := by decide +kernel
theorem dX7_init_33 : decode cX7_init 33 = .ok (.newarray .int, 2) := by decide +kernel
theorem dX7_init_35 : decode cX7_init 35 = .ok (.dup, 1) := by decide +kernel
theorem dX7_init_36 : decode cX7_init 36 = .ok (.iconst 0, 1) := by decide +kernel
theorem dX7_init_37 : decode cX7_init 37 = .ok (.iconst 0, 1) := by decide +kernel
theorem dX7_init_38 : decode cX7_init 38 = .ok (.iastore, 1) := by decide +kernel
theorem dX7_init_39 : decode cX7_init 39 = .ok (.dup, 1) := by decide +kernel
theorem dX7_init_40 : decode cX7_init 40 = .ok (.iconst 1, 1) := by decide +kernel
theorem dX7_init_41 : decode cX7_init 41 = .ok (.iconst 5, 1) := by decide +kernel
theorem dX7_init_42 : decode cX7_init 42 = .ok (.iastore, 1) := by decide +kernel
theorem dX7_init_43 : decode cX7_init 43 = .ok (.dup, 1) := by decide +kernel
theorem dX7_init_44 : decode cX7_init 44 = .ok (.iconst 2, 1) := by decide +kernel
theorem dX7_init_45 : decode cX7_init 45 = .ok (.bipush 11, 2) := by decide +kernel
theorem dX7_init_47 : decode cX7_init 47 = .ok (.iastore, 1) := by decide +kernel
theorem dX7_init_48 : decode cX7_init 48 = .ok (.dup, 1) := by decide +kernel
theorem dX7_init_49 : decode cX7_init 49 = .ok (.iconst 3, 1) := by decide +kernel
theorem dX7_init_50 : decode cX7_init 50 = .ok (.bipush 14, 2) := by decide +kernel
theorem dX7_init_52 : decode cX7_init 52 = .ok (.iastore, 1) := by decide +kernel
theorem dX7_init_53 : decode cX7_init 53 = .ok (.dup, 1) := by decide +kernel
theorem dX7_init_54 : decode cX7_init 54 = .ok (.iconst 4, 1) := by decide +kernel
theorem dX7_init_55 : decode cX7_init 55 = .ok (.bipush 21, 2) := by decide +kernel
theorem dX7_init_57 : decode cX7_init 57 = .ok (.iastore, 1) := by decide +kernel
theorem dX7_init_58 : decode cX7_init 58 = .ok (.dup, 1) := by decide +kernel
theorem dX7_init_59 : decode cX7_init 59 = .ok (.iconst 5, 1) := by decide +kernel
theorem dX7_init_60 : decode cX7_init 60 = .ok (.bipush 25, 2) := by decide +kernel
theorem dX7_init_62 : decode cX7_init 62 = .ok (.iastore, 1) := by decide +kernel
theorem dX7_init_63 : decode cX7_init 63 = .ok (.dup, 1) := by decide +kernel
theorem dX7_init_64 : decode cX7_init 64 = .ok (.bipush 6, 2) := by decide +kernel
theorem dX7_init_66 : decode cX7_init 66 = .ok (.bipush 29, 2) := by decide +kernel
theorem dX7_init_68 : decode cX7_init 68 = .ok (.iastore, 1) := by decide +kernel
theorem dX7_init_69 : decode cX7_init 69 = .ok (.dup, 1) := by decide +kernel
theorem dX7_init_70 : decode cX7_init 70 = .ok (.bipush 7, 2) := by decide +kernel
theorem dX7_init_72 : decode cX7_init 72 = .ok (.bipush 33, 2) := by decide +kernel
theorem dX7_init_74 : decode cX7_init 74 = .ok (.iastore, 1) := by decide +kernel
theorem dX7_init_75 : decode cX7_init 75 = .ok (.putfield 19, 3) := by decide +kernel
theorem dX7_init_78 : decode cX7_init 78 = .ok (.aload_n 0, 1) := by decide +kernel
theorem dX7_init_79 : decode cX7_init 79 = .ok (.bipush 33, 2) := by decide +kernel
theorem dX7_init_81 : decode cX7_init 81 = .ok (.newarray .int, 2) := by decide +kernel
theorem dX7_init_83 : decode cX7_init 83 = .ok (.dup, 1) := by decide +kernel
theorem dX7_init_84 : decode cX7_init 84 = .ok (.iconst 0, 1) := by decide +kernel
theorem dX7_init_85 : decode cX7_init 85 = .ok (.bipush 112, 2) := by decide +kernel
theorem dX7_init_87 : decode cX7_init 87 = .ok (.iastore, 1) := by decide +kernel
theorem dX7_init_88 : decode cX7_init 88 = .ok (.dup, 1) := by decide +kernel
theorem dX7_init_89 : decode cX7_init 89 = .ok (.iconst 1, 1) := by decide +kernel
theorem dX7_init_90 : decode cX7_init 90 = .ok (.bipush 108, 2) := by decide +kernel
theorem dX7_init_92 : decode cX7_init 92 = .ok (.iastore, 1) := by decide +kernel
theorem dX7_init_93 : decode cX7_init 93 = .ok (.dup, 1) := by decide +kernel
theorem dX7_init_94 : decode cX7_init 94 = .ok (.iconst 2, 1) := by decide +kernel
theorem dX7_init_95 : decode cX7_init 95 = .ok (.bipush 97, 2) := by decide +kernel
theorem dX7_init_97 : decode cX7_init 97 = .ok (.iastore, 1) := by decide +kernel
theorem dX7_init_98 : decode cX7_init 98 = .ok (.dup, 1) := by decide +kernel
theorem dX7_init_99 : decode cX7_init 99 = .ok (.iconst 3, 1) := by decide +kernel
theorem dX7_init_100 : decode cX7_init 100 = .ok (.bipush 105, 2) := by decide +kernel
theorem dX7_init_102 : decode cX7_init 102 = .ok (.iastore, 1) := by decide +kernel
theorem dX7_init_103 : decode cX7_init 103 = .ok (.dup, 1) := by decide +kernel
theorem dX7_init_104 : decode cX7_init 104 = .ok (.iconst 4, 1) := by decide +kernel
theorem dX7_init_105 : decode cX7_init 105 = .ok (.bipush 110, 2) := by decide +kernel
theorem dX7_init_107 : decode cX7_init 107 = .ok (.iastore, 1) := by decide +kernel
theorem dX7_init_108 : decode cX7_init 108 = .ok (.dup, 1) := by decide +kernel
theorem dX7_init_109 : decode cX7_init 109 = .ok (.iconst 5, 1) := by decide +kernel
theorem dX7_init_110 : decode cX7_init 110 = .ok (.bipush 115, 2) := by decide +kernel
theorem dX7_init_112 : decode cX7_init 112 = .ok (.iastore, 1) := by decide +kernel
theorem dX7_init_113 : decode cX7_init 113 = .ok (.dup, 1) := by decide +kernel
theorem dX7_init_114 : decode cX7_init 114 = .ok (.bipush 6, 2) := by decide +kernel
theorem dX7_init_116 : decode cX7_init 116 = .ok (.bipush 105, 2) := by decide +kernel
theorem dX7_init_118 : decode cX7_init 118 = .ok (.iastore, 1) := by decide +kernel
theorem dX7_init_119 : decode cX7_init 119 = .ok (.dup, 1) := by decide +kernel
theorem dX7_init_120 : decode cX7_init 120 = .ok (.bipush 7, 2) := by decide +kernel
theorem dX7_init_122 : decode cX7_init 122 = .ok (.bipush 108, 2) := by decide +kernel
theorem dX7_init_124 : decode cX7_init 124 = .ok (.iastore, 1) := by decide +kernel
theorem dX7_init_125 : decode cX7_init 125 = .ok (.dup, 1) := by decide +kernel
theorem dX7_init_126 : decode cX7_init 126 = .ok (.bipush 8, 2) := by decide +kernel
theorem dX7_init_128 : decode cX7_init 128 = .ok (.bipush 118, 2) := by decide +kernel
theorem dX7_init_130 : decode cX7_init 130 = .ok (.iastore, 1) := by decide +kernel
theorem dX7_init_131 : decode cX7_init 131 = .ok (.dup, 1) := by decide +kernel
theorem dX7_init_132 : decode cX7_init 132 = .ok (.bipush 9, 2) := by decide +kernel
theorem dX7_init_134 : decode cX7_init 134 = .ok (.bipush 101, 2) := by decide +kernel
theorem dX7_init_136 : decode cX7_init 136 = .ok (.iastore, 1) := by decide +kernel
theorem dX7_init_137 : decode cX7_init 137 = .ok (.dup, 1) := by decide +kernel
theorem dX7_init_138 : decode cX7_init 138 = .ok (.bipush 10, 2) := by decide +kernel
theorem dX7_init_140 : decode cX7_init 140 = .ok (.bipush 114, 2) := by decide +kernel
theorem dX7_init_142 : decode cX7_init 142 = .ok (.iastore, 1) := by decide +kernel
theorem dX7_init_143 : decode cX7_init 143 = .ok (.dup, 1) := by decide +kernel
theorem dX7_init_144 : decode cX7_init 144 = .ok (.bipush 11, 2) := by decide +kernel
theorem dX7_init_146 : decode cX7_init 146 = .ok (.bipush 111, 2) := by decide +kernel
theorem dX7_init_148 : decode cX7_init 148 = .ok (.iastore, 1) := by decide +kernel
theorem dX7_init_149 : decode cX7_init 149 = .ok (.dup, 1) := by decide +kernel
theorem dX7_init_150 : decode cX7_init 150 = .ok (.bipush 12, 2) := by decide +kernel
theorem dX7_init_152 : decode cX7_init 152 = .ok (.bipush 108, 2) := by decide +kernel
theorem dX7_init_154 : decode cX7_init 154 = .ok (.iastore, 1) := by decide +kernel
theorem dX7_init_155 : decode cX7_init 155 = .ok (.dup, 1) := by decide +kernel
theorem dX7_init_156 : decode cX7_init 156 = .ok (.bipush 13, 2) := by decide +kernel
theorem dX7_init_158 : decode cX7_init 158 = .ok (.bipush 100, 2) := by decide +kernel
theorem dX7_init_160 : decode cX7_init 160 = .ok (.iastore, 1) := by decide +kernel
theorem dX7_init_161 : decode cX7_init 161 = .ok (.dup, 1) := by decide +kernel
theorem dX7_init_162 : decode cX7_init 162 = .ok (.bipush 14, 2) := by decide +kernel
theorem dX7_init_164 : decode cX7_init 164 = .ok (.bipush 115, 2) := by decide +kernel
theorem dX7_init_166 : decode cX7_init 166 = .ok (.iastore, 1) := by decide +kernel
theorem dX7_init_167 : decode cX7_init 167 = .ok (.dup, 1) := by decide +kernel
theorem dX7_init_168 : decode cX7_init 168 = .ok (.bipush 15, 2) := by decide +kernel
theorem dX7_init_170 : decode cX7_init 170 = .ok (.bipush 97, 2) := by decide +kernel
theorem dX7_init_172 : decode cX7_init 172 = .ok (.iastore, 1) := by decide +kernel
theorem dX7_init_173 : decode cX7_init 173 = .ok (.dup, 1) := by decide +kernel
theorem dX7_init_174 : decode cX7_init 174 = .ok (.bipush 16, 2) := by decide +kernel
theorem dX7_init_176 : decode cX7_init 176 = .ok (.bipush 112, 2) := by decide +kernel
theorem dX7_init_178 : decode cX7_init 178 = .ok (.iastore, 1) := by decide +kernel
theorem dX7_init_179 : decode cX7_init 179 = .ok (.dup, 1) := by decide +kernel
theorem dX7_init_180 : decode cX7_init 180 = .ok (.bipush 17, 2) := by decide +kernel
theorem dX7_init_182 : decode cX7_init 182 = .ok (.bipush 108, 2) := by decide +kernel
theorem dX7_init_184 : decode cX7_init 184 = .ok (.iastore, 1) := by decide +kernel
theorem dX7_init_185 : decode cX7_init 185 = .ok (.dup, 1) := by decide +kernel
theorem dX7_init_186 : decode cX7_init 186 = .ok (.bipush 18, 2) := by decide +kernel
theorem dX7_init_188 : decode cX7_init 188 = .ok (.bipush 105, 2) := by decide +kernel
theorem dX7_init_190 : decode cX7_init 190 = .ok (.iastore, 1) := by decide +kernel
theorem dX7_init_191 : decode cX7_init 191 = .ok (.dup, 1) := by decide +kernel
theorem dX7_init_192 : decode cX7_init 192 = .ok (.bipush 19, 2) := by decide +kernel
theorem dX7_init_194 : decode cX7_init 194 = .ok (.bipush 110, 2) := by decide +kernel
theorem dX7_init_196 : decode cX7_init 196 = .ok (.iastore, 1) := by decide +kernel
theorem dX7_init_197 : decode cX7_init 197 = .ok (.dup, 1) := by decide +kernel
theorem dX7_init_198 : decode cX7_init 198 = .ok (.bipush 20, 2) := by decide +kernel
theorem dX7_init_200 : decode cX7_init 200 = .ok (.bipush 103, 2) := by decide +kernel
theorem dX7_init_202 : decode cX7_init 202 = .ok (.iastore, 1) := by decide +kernel
theorem dX7_init_203 : decode cX7_init 203 = .ok (.dup, 1) := by decide +kernel
theorem dX7_init_204 : decode cX7_init 204 = .ok (.bipush 21, 2) := by decide +kernel
theorem dX7_init_206 : decode cX7_init 206 = .ok (.bipush 114, 2) := by decide +kernel
theorem dX7_init_208 : decode cX7_init 208 = .ok (.iastore, 1) := by decide +kernel
theorem dX7_init_209 : decode cX7_init 209 = .ok (.dup, 1) := by decide +kernel
theorem dX7_init_210 : decode cX7_init 210 = .ok (.bipush 22, 2) := by decide +kernel
theorem dX7_init_212 : decode cX7_init 212 = .ok (.bipush 111, 2) := by decide +kernel
theorem dX7_init_214 : decode cX7_init 214 = .ok (.iastore, 1) := by decide +kernel
theorem dX7_init_215 : decode cX7_init 215 = .ok (.dup, 1) := by decide +kernel
theorem dX7_init_216 : decode cX7_init 216 = .ok (.bipush 23, 2) := by decide +kernel
theorem dX7_init_218 : decode cX7_init 218 = .ok (.bipush 111, 2) := by decide +kernel
theorem dX7_init_220 : decode cX7_init 220 = .ok (.iastore, 1) := by decide +kernel
theorem dX7_init_221 : decode cX7_init 221 = .ok (.dup, 1) := by decide +kernel
theorem dX7_init_222 : decode cX7_init 222 = .ok (.bipush 24, 2) := by decide +kernel
theorem dX7_init_224 : decode cX7_init 224 = .ok (.bipush 116, 2) := by decide +kernel
theorem dX7_init_226 : decode cX7_init 226 = .ok (.iastore, 1) := by decide +kernel
theorem dX7_init_227 : decode cX7_init 227 = .ok (.dup, 1) := by decide +kernel
theorem dX7_init_228 : decode cX7_init 228 = .ok (.bipush 25, 2) := by decide +kernel
theorem dX7_init_230 : decode cX7_init 230 = .ok (.bipush 116, 2) := by decide +kernel
theorem dX7_init_232 : decode cX7_init 232 = .ok (.iastore, 1) := by decide +kernel
theorem dX7_init_233 : decode cX7_init 233 = .ok (.dup, 1) := by decide +kernel
theorem dX7_init_234 : decode cX7_init 234 = .ok (.bipush 26, 2) := by decide +kernel
theorem dX7_init_236 : decode cX7_init 236 = .ok (.bipush 97, 2) := by decide +kernel
theorem dX7_init_238 : decode cX7_init 238 = .ok (.iastore, 1) := by decide +kernel
theorem dX7_init_239 : decode cX7_init 239 = .ok (.dup, 1) := by decide +kernel
theorem dX7_init_240 : decode cX7_init 240 = .ok (.bipush 27, 2) := by decide +kernel
theorem dX7_init_242 : decode cX7_init 242 = .ok (.bipush 108, 2) := by decide +kernel
theorem dX7_init_244 : decode cX7_init 244 = .ok (.iastore, 1) := by decide +kernel
theorem dX7_init_245 : decode cX7_init 245 = .ok (.dup, 1) := by decide +kernel
theorem dX7_init_246 : decode cX7_init 246 = .ok (.bipush 28, 2) := by decide +kernel
theorem dX7_init_248 : decode cX7_init 248 = .ok (.bipush 107, 2) := by decide +kernel
theorem dX7_init_250 : decode cX7_init 250 = .ok (.iastore, 1) := by decide +kernel
theorem dX7_init_251 : decode cX7_init 251 = .ok (.dup, 1) := by decide +kernel
theorem dX7_init_252 : decode cX7_init 252 = .ok (.bipush 29, 2) := by decide +kernel
theorem dX7_init_254 : decode cX7_init 254 = .ok (.bipush 119, 2) := by decide +kernel
theorem dX7_init_256 : decode cX7_init 256 = .ok (.iastore, 1) := by decide +kernel
theorem dX7_init_257 : decode cX7_init 257 = .ok (.dup, 1) := by decide +kernel
theorem dX7_init_258 : decode cX7_init 258 = .ok (.bipush 30, 2) := by decide +kernel
theorem dX7_init_260 : decode cX7_init 260 = .ok (.bipush 105, 2) := by decide +kernel
theorem dX7_init_262 : decode cX7_init 262 = .ok (.iastore, 1) := by decide +kernel
theorem dX7_init_263 : decode cX7_init 263 = .ok (.dup, 1) := by decide +kernel
theorem dX7_init_264 : decode cX7_init 264 = .ok (.bipush 31, 2) := by decide +kernel
theorem dX7_init_266 : decode cX7_init 266 = .ok (.bipush 110, 2) := by decide +kernel
theorem dX7_init_268 : decode cX7_init 268 = .ok (.iastore, 1) := by decide +kernel
theorem dX7_init_269 : decode cX7_init 269 = .ok (.dup, 1) := by decide +kernel
theorem dX7_init_270 : decode cX7_init 270 = .ok (.bipush 32, 2) := by decide +kernel
theorem dX7_init_272 : decode cX7_init 272 = .ok (.bipush 100, 2) := by decide +kernel
theorem dX7_init_274 : decode cX7_init 274 = .ok (.iastore, 1) := by decide +kernel
theorem dX7_init_275 : decode cX7_init 275 = .ok (.putfield 22, 3) := by decide +kernel
theorem dX7_init_278 : decode cX7_init 278 = .ok (.aload_n 0, 1) := by decide +kernel
theorem dX7_init_279 : decode cX7_init 279 = .ok (.bipush 6, 2) := by decide +kernel
theorem dX7_init_281 : decode cX7_init 281 = .ok (.newarray .int, 2) := by decide +kernel
theorem dX7_init_283 : decode cX7_init 283 = .ok (.putfield 25, 3) := by decide +kernel
theorem dX7_init_286 : decode cX7_init 286 = .ok (.aload_n 0, 1) := by decide +kernel
theorem dX7_init_287 : decode cX7_init 287 = .ok (.bipush 6, 2) := by decide +kernel
theorem dX7_init_289 : decode cX7_init 289 = .ok (.newarray .int, 2) := by decide +kernel
theorem dX7_init_291 : decode cX7_init 291 = .ok (.putfield 28, 3) := by decide +kernel
theorem dX7_init_294 : decode cX7_init 294 = .ok (.aload_n 0, 1) := by decide +kernel
theorem dX7_init_295 : decode cX7_init 295 = .ok (.bipush 12, 2) := by decide +kernel
theorem dX7_init_297 : decode cX7_init 297 = .ok (.newarray .int, 2) := by decide +kernel
theorem dX7_init_299 : decode cX7_init 299 = .ok (.putfield 31, 3) := by decide +kernel
theorem dX7_init_302 : decode cX7_init 302 = .ok (.aload_n 0, 1) := by decide +kernel
theorem dX7_init_303 : decode cX7_init 303 = .ok (.bipush 121, 2) := by decide +kernel
theorem dX7_init_305 : decode cX7_init 305 = .ok (.newarray .int, 2) := by decide +kernel
theorem dX7_init_307 : decode cX7_init 307 = .ok (.putfield 34, 3) := by decide +kernel
theorem dX7_init_310 : decode cX7_init 310 = .ok (.aload_n 0, 1) := by decide +kernel
theorem dX7_init_311 : decode cX7_init 311 = .ok (.iconst 2, 1) := by decide +kernel
theorem dX7_init_312 : decode cX7_init 312 = .ok (.newarray .boolean, 2) := by decide +kernel
theorem dX7_init_314 : decode cX7_init 314 = .ok (.putfield 37, 3) := by decide +kernel
theorem dX7_init_317 : decode cX7_init 317 = .ok (.aload_n 0, 1) := by decide +kernel
theorem dX7_init_318 : decode cX7_init 318 = .ok (.iconst 4, 1) := by decide +kernel
theorem dX7_init_319 : decode cX7_init 319 = .ok (.newarray .int, 2) := by decide +kernel
theorem dX7_init_321 : decode cX7_init 321 = .ok (.dup, 1) := by decide +kernel
theorem dX7_init_322 : decode cX7_init 322 = .ok (.iconst 0, 1) := by decide +kernel
theorem dX7_init_323 : decode cX7_init 323 = .ok (.bipush (-4), 2) := by decide +kernel
theorem dX7_init_325 : decode cX7_init 325 = .ok (.iastore, 1) := by decide +kernel
theorem dX7_init_326 : decode cX7_init 326 = .ok (.dup, 1) := by decide +kernel
theorem dX7_init_327 : decode cX7_init 327 = .ok (.iconst 1, 1) := by decide +kernel
theorem dX7_init_328 : decode cX7_init 328 = .ok (.bipush (-4), 2) := by decide +kernel
theorem dX7_init_330 : decode cX7_init 330 = .ok (.iastore, 1) := by decide +kernel
theorem dX7_init_331 : decode cX7_init 331 = .ok (.dup, 1) := by decide +kernel
theorem dX7_init_332 : decode cX7_init 332 = .ok (.iconst 2, 1) := by decide +kernel
theorem dX7_init_333 : decode cX7_init 333 = .ok (.bipush (-4), 2) := by decide +kernel
theorem dX7_init_335 : decode cX7_init 335 = .ok (.iastore, 1) := by decide +kernel
theorem dX7_init_336 : decode cX7_init 336 = .ok (.dup, 1) := by decide +kernel
theorem dX7_init_337 : decode cX7_init 337 = .ok (.iconst 3, 1) := by decide +kernel
theorem dX7_init_338 : decode cX7_init 338 = .ok (.bipush (-4), 2) := by decide +kernel
theorem dX7_init_340 : decode cX7_init 340 = .ok (.iastore, 1) := by decide +kernel
theorem dX7_init_341 : decode cX7_init 341 = .ok (.putfield 41, 3) := by decide +kernel
theorem dX7_init_344 : decode cX7_init 344 = .ok (.aload_n 0, 1) := by decide +kernel
theorem dX7_init_345 : decode cX7_init 345 = .ok (.iconst 4, 1) := by decide +kernel
theorem dX7_init_346 : decode cX7_init 346 = .ok (.newarray .int, 2) := by decide +kernel
theorem dX7_init_348 : decode cX7_init 348 = .ok (.putfield 44, 3) := by decide +kernel
theorem dX7_init_351 : decode cX7_init 351 = .ok (.aload_n 0, 1) := by decide +kernel
theorem dX7_init_352 : decode cX7_init 352 = .ok (.sipush 160, 3) := by decide +kernel
theorem dX7_init_355 : decode cX7_init 355 = .ok (.newarray .int, 2) := by decide +kernel
theorem dX7_init_357 : decode cX7_init 357 = .ok (.putfield 47, 3) := by decide +kernel
theorem dX7_init_360 : decode cX7_init 360 = .ok (.return_, 1) := by decide +kernel
theorem dX7_in_0 : decode cX7_in 0 = .ok (.lload_n 0, 1) := by decide +kernel
theorem dX7_in_1 : decode cX7_in 1 = .ok (.lload_n 2, 1) := by decide +kernel
theorem dX7_in_2 : decode cX7_in 2 = .ok (.lcmp, 1) := by decide +kernel
theorem dX7_in_3 : decode cX7_in 3 = .ok (.ifCond .lt 14, 3) := by decide +kernel
theorem dX7_in_6 : decode cX7_in 6 = .ok (.lload_n 0, 1) := by decide +kernel
theorem dX7_in_7 : decode cX7_in 7 = .ok (.lload 4, 2) := by decide +kernel
theorem dX7_in_9 : decode cX7_in 9 = .ok (.lcmp, 1) := by decide +kernel
theorem dX7_in_10 : decode cX7_in 10 = .ok (.ifCond .gt 7, 3) := by decide +kernel
theorem dX7_in_13 : decode cX7_in 13 = .ok (.iconst 1, 1) := by decide +kernel
theorem dX7_in_14 : decode cX7_in 14 = .ok (.goto 4, 3) := by decide +kernel
theorem dX7_in_17 : decode cX7_in 17 = .ok (.iconst 0, 1) := by decide +kernel
theorem dX7_in_18 : decode cX7_in 18 = .ok (.ireturn, 1) := by decide +kernel
theorem dX7_feed_0 : decode cX7_feed 0 = .ok (.iload_n 1, 1) := by decide +kernel
theorem dX7_feed_1 : decode cX7_feed 1 = .ok (.i2l, 1) := by decide +kernel
theorem dX7_feed_2 : decode cX7_feed 2 = .ok (.lconst 0, 1) := by decide +kernel
theorem dX7_feed_3 : decode cX7_feed 3 = .ok (.ldc2_w 50, 3) := by decide +kernel
theorem dX7_feed_6 : decode cX7_feed 6 = .ok (.invokestatic 52, 3) := by decide +kernel
theorem dX7_feed_9 : decode cX7_feed 9 = .ok (.ifCond .ne 5, 3) := by decide +kernel
theorem dX7_feed_12 : decode cX7_feed 12 = .ok (.iconst (-1), 1) := by decide +kernel
theorem dX7_feed_13 : decode cX7_feed 13 = .ok (.ireturn, 1) := by decide +kernel
theorem dX7_feed_14 : decode cX7_feed 14 = .ok (.aload_n 0, 1) := by decide +kernel
theorem dX7_feed_15 : decode cX7_feed 15 = .ok (.getfield 56, 3) := by decide +kernel
theorem dX7_feed_18 : decode cX7_feed 18 = .ok (.sipush 160, 3) := by decide +kernel
theorem dX7_feed_21 : decode cX7_feed 21 = .ok (.if_icmp .ne 6, 3) := by decide +kernel
theorem dX7_feed_24 : decode cX7_feed 24 = .ok (.bipush (-3), 2) := by decide +kernel
theorem dX7_feed_26 : decode cX7_feed 26 = .ok (.ireturn, 1) := by decide +kernel
theorem dX7_feed_27 : decode cX7_feed 27 = .ok (.aload_n 0, 1) := by decide +kernel
theorem dX7_feed_28 : decode cX7_feed 28 = .ok (.getfield 16, 3) := by decide +kernel
theorem dX7_feed_31 : decode cX7_feed 31 = .ok (.aload_n 0, 1) := by decide +kernel
theorem dX7_feed_32 : decode cX7_feed 32 = .ok (.getfield 56, 3) := by decide +kernel
theorem dX7_feed_35 : decode cX7_feed 35 = .ok (.iload_n 1, 1) := by decide +kernel
theorem dX7_feed_36 : decode cX7_feed 36 = .ok (.iastore, 1) := by decide +kernel
theorem dX7_feed_37 : decode cX7_feed 37 = .ok (.aload_n 0, 1) := by decide +kernel
theorem dX7_feed_38 : decode cX7_feed 38 = .ok (.dup, 1) := by decide +kernel
theorem dX7_feed_39 : decode cX7_feed 39 = .ok (.getfield 56, 3) := by decide +kernel
theorem dX7_feed_42 : decode cX7_feed 42 = .ok (.iconst 1, 1) := by decide +kernel
theorem dX7_feed_43 : decode cX7_feed 43 = .ok (.iadd, 1) := by decide +kernel
theorem dX7_feed_44 : decode cX7_feed 44 = .ok (.putfield 56, 3) := by decide +kernel
theorem dX7_feed_47 : decode cX7_feed 47 = .ok (.aload_n 0, 1) := by decide +kernel
theorem dX7_feed_48 : decode cX7_feed 48 = .ok (.getfield 56, 3) := by decide +kernel
theorem dX7_feed_51 : decode cX7_feed 51 = .ok (.ireturn, 1) := by decide +kernel
theorem dX7_end_0 : decode cX7_end 0 = .ok (.iload_n 1, 1) := by decide +kernel
theorem dX7_end_1 : decode cX7_end 1 = .ok (.i2l, 1) := by decide +kernel
theorem dX7_end_2 : decode cX7_end 2 = .ok (.lconst 0, 1) := by decide +kernel
theorem dX7_end_3 : decode cX7_end 3 = .ok (.aload_n 0, 1) := by decide +kernel
theorem dX7_end_4 : decode cX7_end 4 = .ok (.getfield 56, 3) := by decide +kernel
theorem dX7_end_7 : decode cX7_end 7 = .ok (.i2l, 1) := by decide +kernel
theorem dX7_end_8 : decode cX7_end 8 = .ok (.invokestatic 52, 3) := by decide +kernel
theorem dX7_end_11 : decode cX7_end 11 = .ok (.ifCond .ne 5, 3) := by decide +kernel
theorem dX7_end_14 : decode cX7_end 14 = .ok (.iconst (-1), 1) := by decide +kernel
theorem dX7_end_15 : decode cX7_end 15 = .ok (.ireturn, 1) := by decide +kernel
theorem dX7_end_16 : decode cX7_end 16 = .ok (.aload_n 0, 1) := by decide +kernel
theorem dX7_end_17 : decode cX7_end 17 = .ok (.getfield 56, 3) := by decide +kernel
theorem dX7_end_20 : decode cX7_end 20 = .ok (.istore_n 2, 1) := by decide +kernel
theorem dX7_end_21 : decode cX7_end 21 = .ok (.aload_n 0, 1) := by decide +kernel
theorem dX7_end_22 : decode cX7_end 22 = .ok (.iload_n 1, 1) := by decide +kernel
theorem dX7_end_23 : decode cX7_end 23 = .ok (.putfield 56, 3) := by decide +kernel
theorem dX7_end_26 : decode cX7_end 26 = .ok (.iload_n 2, 1) := by decide +kernel
theorem dX7_end_27 : decode cX7_end 27 = .ok (.ireturn, 1) := by decide +kernel
theorem dX7_byteAt_0 : decode cX7_byteAt 0 = .ok (.iload_n 1, 1) := by decide +kernel
theorem dX7_byteAt_1 : decode cX7_byteAt 1 = .ok (.aload_n 0, 1) := by decide +kernel
theorem dX7_byteAt_2 : decode cX7_byteAt 2 = .ok (.getfield 56, 3) := by decide +kernel
theorem dX7_byteAt_5 : decode cX7_byteAt 5 = .ok (.if_icmp .ge 12, 3) := by decide +kernel
theorem dX7_byteAt_8 : decode cX7_byteAt 8 = .ok (.aload_n 0, 1) := by decide +kernel
theorem dX7_byteAt_9 : decode cX7_byteAt 9 = .ok (.getfield 16, 3) := by decide +kernel
theorem dX7_byteAt_12 : decode cX7_byteAt 12 = .ok (.iload_n 1, 1) := by decide +kernel
theorem dX7_byteAt_13 : decode cX7_byteAt 13 = .ok (.iaload, 1) := by decide +kernel
theorem dX7_byteAt_14 : decode cX7_byteAt 14 = .ok (.goto 5, 3) := by decide +kernel
theorem dX7_byteAt_17 : decode cX7_byteAt 17 = .ok (.bipush (-4), 2) := by decide +kernel
theorem dX7_byteAt_19 : decode cX7_byteAt 19 = .ok (.ireturn, 1) := by decide +kernel
theorem dX7_fails_0 : decode cX7_fails 0 = .ok (.aload_n 0, 1) := by decide +kernel
theorem dX7_fails_1 : decode cX7_fails 1 = .ok (.getfield 60, 3) := by decide +kernel
theorem dX7_fails_4 : decode cX7_fails 4 = .ok (.ifCond .ne 16, 3) := by decide +kernel
theorem dX7_fails_7 : decode cX7_fails 7 = .ok (.aload_n 0, 1) := by decide +kernel
theorem dX7_fails_8 : decode cX7_fails 8 = .ok (.iload_n 1, 1) := by decide +kernel
theorem dX7_fails_9 : decode cX7_fails 9 = .ok (.putfield 60, 3) := by decide +kernel
theorem dX7_fails_12 : decode cX7_fails 12 = .ok (.aload_n 0, 1) := by decide +kernel
theorem dX7_fails_13 : decode cX7_fails 13 = .ok (.aload_n 0, 1) := by decide +kernel
theorem dX7_fails_14 : decode cX7_fails 14 = .ok (.getfield 63, 3) := by decide +kernel
theorem dX7_fails_17 : decode cX7_fails 17 = .ok (.putfield 66, 3) := by decide +kernel
theorem dX7_fails_20 : decode cX7_fails 20 = .ok (.return_, 1) := by decide +kernel
theorem dX7_nameHere_0 : decode cX7_nameHere 0 = .ok (.iconst 0, 1) := by decide +kernel
theorem dX7_nameHere_1 : decode cX7_nameHere 1 = .ok (.istore_n 1, 1) := by decide +kernel
theorem dX7_nameHere_2 : decode cX7_nameHere 2 = .ok (.iload_n 1, 1) := by decide +kernel
theorem dX7_nameHere_3 : decode cX7_nameHere 3 = .ok (.bipush 7, 2) := by decide +kernel
theorem dX7_nameHere_5 : decode cX7_nameHere 5 = .ok (.if_icmp .ge 113, 3) := by decide +kernel
theorem dX7_nameHere_8 : decode cX7_nameHere 8 = .ok (.aload_n 0, 1) := by decide +kernel
theorem dX7_nameHere_9 : decode cX7_nameHere 9 = .ok (.getfield 69, 3) := by decide +kernel
theorem dX7_nameHere_12 : decode cX7_nameHere 12 = .ok (.iconst 1, 1) := by decide +kernel
theorem dX7_nameHere_13 : decode cX7_nameHere 13 = .ok (.if_icmp .ne 105, 3) := by decide +kernel
theorem dX7_nameHere_16 : decode cX7_nameHere 16 = .ok (.aload_n 0, 1) := by decide +kernel
theorem dX7_nameHere_17 : decode cX7_nameHere 17 = .ok (.getfield 72, 3) := by decide +kernel
theorem dX7_nameHere_20 : decode cX7_nameHere 20 = .ok (.aload_n 0, 1) := by decide +kernel
theorem dX7_nameHere_21 : decode cX7_nameHere 21 = .ok (.getfield 63, 3) := by decide +kernel
theorem dX7_nameHere_24 : decode cX7_nameHere 24 = .ok (.isub, 1) := by decide +kernel
theorem dX7_nameHere_25 : decode cX7_nameHere 25 = .ok (.aload_n 0, 1) := by decide +kernel
theorem dX7_nameHere_26 : decode cX7_nameHere 26 = .ok (.getfield 19, 3) := by decide +kernel
theorem dX7_nameHere_29 : decode cX7_nameHere 29 = .ok (.iload_n 1, 1) := by decide +kernel
theorem dX7_nameHere_30 : decode cX7_nameHere 30 = .ok (.iconst 1, 1) := by decide +kernel
theorem dX7_nameHere_31 : decode cX7_nameHere 31 = .ok (.iadd, 1) := by decide +kernel
theorem dX7_nameHere_32 : decode cX7_nameHere 32 = .ok (.iaload, 1) := by decide +kernel
theorem dX7_nameHere_33 : decode cX7_nameHere 33 = .ok (.aload_n 0, 1) := by decide +kernel
theorem dX7_nameHere_34 : decode cX7_nameHere 34 = .ok (.getfield 19, 3) := by decide +kernel
theorem dX7_nameHere_37 : decode cX7_nameHere 37 = .ok (.iload_n 1, 1) := by decide +kernel
theorem dX7_nameHere_38 : decode cX7_nameHere 38 = .ok (.iaload, 1) := by decide +kernel
theorem dX7_nameHere_39 : decode cX7_nameHere 39 = .ok (.isub, 1) := by decide +kernel
theorem dX7_nameHere_40 : decode cX7_nameHere 40 = .ok (.if_icmp .ne 7, 3) := by decide +kernel
theorem dX7_nameHere_43 : decode cX7_nameHere 43 = .ok (.iconst 1, 1) := by decide +kernel
theorem dX7_nameHere_44 : decode cX7_nameHere 44 = .ok (.goto 4, 3) := by decide +kernel
theorem dX7_nameHere_47 : decode cX7_nameHere 47 = .ok (.iconst 0, 1) := by decide +kernel
theorem dX7_nameHere_48 : decode cX7_nameHere 48 = .ok (.istore_n 2, 1) := by decide +kernel
theorem dX7_nameHere_49 : decode cX7_nameHere 49 = .ok (.iconst 0, 1) := by decide +kernel
theorem dX7_nameHere_50 : decode cX7_nameHere 50 = .ok (.istore_n 3, 1) := by decide +kernel
theorem dX7_nameHere_51 : decode cX7_nameHere 51 = .ok (.iload_n 2, 1) := by decide +kernel
theorem dX7_nameHere_52 : decode cX7_nameHere 52 = .ok (.ifCond .eq 54, 3) := by decide +kernel
theorem dX7_nameHere_55 : decode cX7_nameHere 55 = .ok (.iload_n 3, 1) := by decide +kernel
theorem dX7_nameHere_56 : decode cX7_nameHere 56 = .ok (.aload_n 0, 1) := by decide +kernel
theorem dX7_nameHere_57 : decode cX7_nameHere 57 = .ok (.getfield 72, 3) := by decide +kernel
theorem dX7_nameHere_60 : decode cX7_nameHere 60 = .ok (.aload_n 0, 1) := by decide +kernel
theorem dX7_nameHere_61 : decode cX7_nameHere 61 = .ok (.getfield 63, 3) := by decide +kernel
theorem dX7_nameHere_64 : decode cX7_nameHere 64 = .ok (.isub, 1) := by decide +kernel
theorem dX7_nameHere_65 : decode cX7_nameHere 65 = .ok (.if_icmp .ge 41, 3) := by decide +kernel
theorem dX7_nameHere_68 : decode cX7_nameHere 68 = .ok (.aload_n 0, 1) := by decide +kernel
theorem dX7_nameHere_69 : decode cX7_nameHere 69 = .ok (.aload_n 0, 1) := by decide +kernel
theorem dX7_nameHere_70 : decode cX7_nameHere 70 = .ok (.getfield 63, 3) := by decide +kernel
theorem dX7_nameHere_73 : decode cX7_nameHere 73 = .ok (.iload_n 3, 1) := by decide +kernel
theorem dX7_nameHere_74 : decode cX7_nameHere 74 = .ok (.iadd, 1) := by decide +kernel
theorem dX7_nameHere_75 : decode cX7_nameHere 75 = .ok (.invokevirtual 75, 3) := by decide +kernel
theorem dX7_nameHere_78 : decode cX7_nameHere 78 = .ok (.aload_n 0, 1) := by decide +kernel
theorem dX7_nameHere_79 : decode cX7_nameHere 79 = .ok (.getfield 22, 3) := by decide +kernel
theorem dX7_nameHere_82 : decode cX7_nameHere 82 = .ok (.aload_n 0, 1) := by decide +kernel
theorem dX7_nameHere_83 : decode cX7_nameHere 83 = .ok (.getfield 19, 3) := by decide +kernel
theorem dX7_nameHere_86 : decode cX7_nameHere 86 = .ok (.iload_n 1, 1) := by decide +kernel
theorem dX7_nameHere_87 : decode cX7_nameHere 87 = .ok (.iaload, 1) := by decide +kernel
theorem dX7_nameHere_88 : decode cX7_nameHere 88 = .ok (.iload_n 3, 1) := by decide +kernel
theorem dX7_nameHere_89 : decode cX7_nameHere 89 = .ok (.iadd, 1) := by decide +kernel
theorem dX7_nameHere_90 : decode cX7_nameHere 90 = .ok (.iaload, 1) := by decide +kernel
theorem dX7_nameHere_91 : decode cX7_nameHere 91 = .ok (.if_icmp .ne 7, 3) := by decide +kernel
theorem dX7_nameHere_94 : decode cX7_nameHere 94 = .ok (.iconst 1, 1) := by decide +kernel
theorem dX7_nameHere_95 : decode cX7_nameHere 95 = .ok (.goto 4, 3) := by decide +kernel
theorem dX7_nameHere_98 : decode cX7_nameHere 98 = .ok (.iconst 0, 1) := by decide +kernel
theorem dX7_nameHere_99 : decode cX7_nameHere 99 = .ok (.istore_n 2, 1) := by decide +kernel
theorem dX7_nameHere_100 : decode cX7_nameHere 100 = .ok (.iinc 3 1, 3) := by decide +kernel
theorem dX7_nameHere_103 : decode cX7_nameHere 103 = .ok (.goto (-52), 3) := by decide +kernel
theorem dX7_nameHere_106 : decode cX7_nameHere 106 = .ok (.iload_n 2, 1) := by decide +kernel
theorem dX7_nameHere_107 : decode cX7_nameHere 107 = .ok (.ifCond .eq 5, 3) := by decide +kernel
theorem dX7_nameHere_110 : decode cX7_nameHere 110 = .ok (.iload_n 1, 1) := by decide +kernel
theorem dX7_nameHere_111 : decode cX7_nameHere 111 = .ok (.ireturn, 1) := by decide +kernel
theorem dX7_nameHere_112 : decode cX7_nameHere 112 = .ok (.iinc 1 1, 3) := by decide +kernel
theorem dX7_nameHere_115 : decode cX7_nameHere 115 = .ok (.goto (-113), 3) := by decide +kernel
theorem dX7_nameHere_118 : decode cX7_nameHere 118 = .ok (.bipush (-4), 2) := by decide +kernel
theorem dX7_nameHere_120 : decode cX7_nameHere 120 = .ok (.ireturn, 1) := by decide +kernel
theorem dX7_step_0 : decode cX7_step 0 = .ok (.aload_n 0, 1) := by decide +kernel
theorem dX7_step_1 : decode cX7_step 1 = .ok (.getfield 60, 3) := by decide +kernel
theorem dX7_step_4 : decode cX7_step 4 = .ok (.ifCond .le 4, 3) := by decide +kernel
theorem dX7_step_7 : decode cX7_step 7 = .ok (.return_, 1) := by decide +kernel
theorem dX7_step_8 : decode cX7_step 8 = .ok (.aload_n 0, 1) := by decide +kernel
theorem dX7_step_9 : decode cX7_step 9 = .ok (.aload_n 0, 1) := by decide +kernel
theorem dX7_step_10 : decode cX7_step 10 = .ok (.getfield 72, 3) := by decide +kernel
theorem dX7_step_13 : decode cX7_step 13 = .ok (.invokevirtual 75, 3) := by decide +kernel
theorem dX7_step_16 : decode cX7_step 16 = .ok (.bipush 32, 2) := by decide +kernel
theorem dX7_step_18 : decode cX7_step 18 = .ok (.if_icmp .ne 16, 3) := by decide +kernel
theorem dX7_step_21 : decode cX7_step 21 = .ok (.aload_n 0, 1) := by decide +kernel
theorem dX7_step_22 : decode cX7_step 22 = .ok (.dup, 1) := by decide +kernel
theorem dX7_step_23 : decode cX7_step 23 = .ok (.getfield 72, 3) := by decide +kernel
theorem dX7_step_26 : decode cX7_step 26 = .ok (.iconst 1, 1) := by decide +kernel
theorem dX7_step_27 : decode cX7_step 27 = .ok (.iadd, 1) := by decide +kernel
theorem dX7_step_28 : decode cX7_step 28 = .ok (.putfield 72, 3) := by decide +kernel
theorem dX7_step_31 : decode cX7_step 31 = .ok (.goto (-23), 3) := by decide +kernel
theorem dX7_step_34 : decode cX7_step 34 = .ok (.aload_n 0, 1) := by decide +kernel
theorem dX7_step_35 : decode cX7_step 35 = .ok (.aload_n 0, 1) := by decide +kernel
theorem dX7_step_36 : decode cX7_step 36 = .ok (.getfield 72, 3) := by decide +kernel
theorem dX7_step_39 : decode cX7_step 39 = .ok (.putfield 63, 3) := by decide +kernel
theorem dX7_step_42 : decode cX7_step 42 = .ok (.aload_n 0, 1) := by decide +kernel
theorem dX7_step_43 : decode cX7_step 43 = .ok (.aload_n 0, 1) := by decide +kernel
theorem dX7_step_44 : decode cX7_step 44 = .ok (.getfield 72, 3) := by decide +kernel
theorem dX7_step_47 : decode cX7_step 47 = .ok (.invokevirtual 75, 3) := by decide +kernel
theorem dX7_step_50 : decode cX7_step 50 = .ok (.istore_n 1, 1) := by decide +kernel
theorem dX7_step_51 : decode cX7_step 51 = .ok (.aload_n 0, 1) := by decide +kernel
theorem dX7_step_52 : decode cX7_step 52 = .ok (.iconst 0, 1) := by decide +kernel
theorem dX7_step_53 : decode cX7_step 53 = .ok (.putfield 79, 3) := by decide +kernel
theorem dX7_step_56 : decode cX7_step 56 = .ok (.iload_n 1, 1) := by decide +kernel
theorem dX7_step_57 : decode cX7_step 57 = .ok (.bipush (-4), 2) := by decide +kernel
theorem dX7_step_59 : decode cX7_step 59 = .ok (.if_icmp .ne 11, 3) := by decide +kernel
theorem dX7_step_62 : decode cX7_step 62 = .ok (.aload_n 0, 1) := by decide +kernel
theorem dX7_step_63 : decode cX7_step 63 = .ok (.iconst 0, 1) := by decide +kernel
theorem dX7_step_64 : decode cX7_step 64 = .ok (.putfield 69, 3) := by decide +kernel
theorem dX7_step_67 : decode cX7_step 67 = .ok (.goto 202, 3) := by decide +kernel
theorem dX7_step_70 : decode cX7_step 70 = .ok (.iload_n 1, 1) := by decide +kernel
theorem dX7_step_71 : decode cX7_step 71 = .ok (.i2l, 1) := by decide +kernel
theorem dX7_step_72 : decode cX7_step 72 = .ok (.ldc2_w 82, 3) := by decide +kernel
theorem dX7_step_75 : decode cX7_step 75 = .ok (.ldc2_w 84, 3) := by decide +kernel
theorem dX7_step_78 : decode cX7_step 78 = .ok (.invokestatic 52, 3) := by decide +kernel
theorem dX7_step_81 : decode cX7_step 81 = .ok (.ifCond .eq 45, 3) := by decide +kernel
theorem dX7_step_84 : decode cX7_step 84 = .ok (.aload_n 0, 1) := by decide +kernel
theorem dX7_step_85 : decode cX7_step 85 = .ok (.aload_n 0, 1) := by decide +kernel
theorem dX7_step_86 : decode cX7_step 86 = .ok (.getfield 72, 3) := by decide +kernel
theorem dX7_step_89 : decode cX7_step 89 = .ok (.invokevirtual 75, 3) := by decide +kernel
theorem dX7_step_92 : decode cX7_step 92 = .ok (.i2l, 1) := by decide +kernel
theorem dX7_step_93 : decode cX7_step 93 = .ok (.ldc2_w 82, 3) := by decide +kernel
theorem dX7_step_96 : decode cX7_step 96 = .ok (.ldc2_w 84, 3) := by decide +kernel
theorem dX7_step_99 : decode cX7_step 99 = .ok (.invokestatic 52, 3) := by decide +kernel
theorem dX7_step_102 : decode cX7_step 102 = .ok (.ifCond .eq 16, 3) := by decide +kernel
theorem dX7_step_105 : decode cX7_step 105 = .ok (.aload_n 0, 1) := by decide +kernel
theorem dX7_step_106 : decode cX7_step 106 = .ok (.dup, 1) := by decide +kernel
theorem dX7_step_107 : decode cX7_step 107 = .ok (.getfield 72, 3) := by decide +kernel
theorem dX7_step_110 : decode cX7_step 110 = .ok (.iconst 1, 1) := by decide +kernel
theorem dX7_step_111 : decode cX7_step 111 = .ok (.iadd, 1) := by decide +kernel
theorem dX7_step_112 : decode cX7_step 112 = .ok (.putfield 72, 3) := by decide +kernel
theorem dX7_step_115 : decode cX7_step 115 = .ok (.goto (-31), 3) := by decide +kernel
theorem dX7_step_118 : decode cX7_step 118 = .ok (.aload_n 0, 1) := by decide +kernel
theorem dX7_step_119 : decode cX7_step 119 = .ok (.iconst 1, 1) := by decide +kernel
theorem dX7_step_120 : decode cX7_step 120 = .ok (.putfield 69, 3) := by decide +kernel
theorem dX7_step_123 : decode cX7_step 123 = .ok (.goto 146, 3) := by decide +kernel
theorem dX7_step_126 : decode cX7_step 126 = .ok (.iload_n 1, 1) := by decide +kernel
theorem dX7_step_127 : decode cX7_step 127 = .ok (.i2l, 1) := by decide +kernel
theorem dX7_step_128 : decode cX7_step 128 = .ok (.ldc2_w 86, 3) := by decide +kernel
theorem dX7_step_131 : decode cX7_step 131 = .ok (.ldc2_w 88, 3) := by decide +kernel
theorem dX7_step_134 : decode cX7_step 134 = .ok (.invokestatic 52, 3) := by decide +kernel
theorem dX7_step_137 : decode cX7_step 137 = .ok (.ifCond .eq 106, 3) := by decide +kernel
theorem dX7_step_140 : decode cX7_step 140 = .ok (.aload_n 0, 1) := by decide +kernel
theorem dX7_step_141 : decode cX7_step 141 = .ok (.aload_n 0, 1) := by decide +kernel
theorem dX7_step_142 : decode cX7_step 142 = .ok (.getfield 72, 3) := by decide +kernel
theorem dX7_step_145 : decode cX7_step 145 = .ok (.invokevirtual 75, 3) := by decide +kernel
theorem dX7_step_148 : decode cX7_step 148 = .ok (.i2l, 1) := by decide +kernel
theorem dX7_step_149 : decode cX7_step 149 = .ok (.ldc2_w 86, 3) := by decide +kernel
theorem dX7_step_152 : decode cX7_step 152 = .ok (.ldc2_w 88, 3) := by decide +kernel
theorem dX7_step_155 : decode cX7_step 155 = .ok (.invokestatic 52, 3) := by decide +kernel
theorem dX7_step_158 : decode cX7_step 158 = .ok (.ifCond .eq 59, 3) := by decide +kernel
theorem dX7_step_161 : decode cX7_step 161 = .ok (.aload_n 0, 1) := by decide +kernel
theorem dX7_step_162 : decode cX7_step 162 = .ok (.aload_n 0, 1) := by decide +kernel
theorem dX7_step_163 : decode cX7_step 163 = .ok (.getfield 72, 3) := by decide +kernel
theorem dX7_step_166 : decode cX7_step 166 = .ok (.aload_n 0, 1) := by decide +kernel
theorem dX7_step_167 : decode cX7_step 167 = .ok (.getfield 63, 3) := by decide +kernel
theorem dX7_step_170 : decode cX7_step 170 = .ok (.isub, 1) := by decide +kernel
theorem dX7_step_171 : decode cX7_step 171 = .ok (.iconst 2, 1) := by decide +kernel
theorem dX7_step_172 : decode cX7_step 172 = .ok (.if_icmp .ge 25, 3) := by decide +kernel
theorem dX7_step_175 : decode cX7_step 175 = .ok (.bipush 10, 2) := by decide +kernel
theorem dX7_step_177 : decode cX7_step 177 = .ok (.aload_n 0, 1) := by decide +kernel
theorem dX7_step_178 : decode cX7_step 178 = .ok (.getfield 79, 3) := by decide +kernel
theorem dX7_step_181 : decode cX7_step 181 = .ok (.imul, 1) := by decide +kernel
theorem dX7_step_182 : decode cX7_step 182 = .ok (.aload_n 0, 1) := by decide +kernel
theorem dX7_step_183 : decode cX7_step 183 = .ok (.aload_n 0, 1) := by decide +kernel
theorem dX7_step_184 : decode cX7_step 184 = .ok (.getfield 72, 3) := by decide +kernel
theorem dX7_step_187 : decode cX7_step 187 = .ok (.invokevirtual 75, 3) := by decide +kernel
theorem dX7_step_190 : decode cX7_step 190 = .ok (.iadd, 1) := by decide +kernel
theorem dX7_step_191 : decode cX7_step 191 = .ok (.bipush 48, 2) := by decide +kernel
theorem dX7_step_193 : decode cX7_step 193 = .ok (.isub, 1) := by decide +kernel
theorem dX7_step_194 : decode cX7_step 194 = .ok (.goto 7, 3) := by decide +kernel
theorem dX7_step_197 : decode cX7_step 197 = .ok (.aload_n 0, 1) := by decide +kernel
theorem dX7_step_198 : decode cX7_step 198 = .ok (.getfield 79, 3) := by decide +kernel
theorem dX7_step_201 : decode cX7_step 201 = .ok (.putfield 79, 3) := by decide +kernel
theorem dX7_step_204 : decode cX7_step 204 = .ok (.aload_n 0, 1) := by decide +kernel
theorem dX7_step_205 : decode cX7_step 205 = .ok (.dup, 1) := by decide +kernel
theorem dX7_step_206 : decode cX7_step 206 = .ok (.getfield 72, 3) := by decide +kernel
theorem dX7_step_209 : decode cX7_step 209 = .ok (.iconst 1, 1) := by decide +kernel
theorem dX7_step_210 : decode cX7_step 210 = .ok (.iadd, 1) := by decide +kernel
theorem dX7_step_211 : decode cX7_step 211 = .ok (.putfield 72, 3) := by decide +kernel
theorem dX7_step_214 : decode cX7_step 214 = .ok (.goto (-74), 3) := by decide +kernel
theorem dX7_step_217 : decode cX7_step 217 = .ok (.aload_n 0, 1) := by decide +kernel
theorem dX7_step_218 : decode cX7_step 218 = .ok (.iconst 2, 1) := by decide +kernel
theorem dX7_step_219 : decode cX7_step 219 = .ok (.putfield 69, 3) := by decide +kernel
theorem dX7_step_222 : decode cX7_step 222 = .ok (.aload_n 0, 1) := by decide +kernel
theorem dX7_step_223 : decode cX7_step 223 = .ok (.getfield 72, 3) := by decide +kernel
theorem dX7_step_226 : decode cX7_step 226 = .ok (.aload_n 0, 1) := by decide +kernel
theorem dX7_step_227 : decode cX7_step 227 = .ok (.getfield 63, 3) := by decide +kernel
theorem dX7_step_230 : decode cX7_step 230 = .ok (.isub, 1) := by decide +kernel
theorem dX7_step_231 : decode cX7_step 231 = .ok (.iconst 2, 1) := by decide +kernel
theorem dX7_step_232 : decode cX7_step 232 = .ok (.if_icmp .le 37, 3) := by decide +kernel
theorem dX7_step_235 : decode cX7_step 235 = .ok (.aload_n 0, 1) := by decide +kernel
theorem dX7_step_236 : decode cX7_step 236 = .ok (.iconst 1, 1) := by decide +kernel
theorem dX7_step_237 : decode cX7_step 237 = .ok (.invokevirtual 90, 3) := by decide +kernel
theorem dX7_step_240 : decode cX7_step 240 = .ok (.goto 29, 3) := by decide +kernel
theorem dX7_step_243 : decode cX7_step 243 = .ok (.aload_n 0, 1) := by decide +kernel
theorem dX7_step_244 : decode cX7_step 244 = .ok (.iconst 3, 1) := by decide +kernel
theorem dX7_step_245 : decode cX7_step 245 = .ok (.putfield 69, 3) := by decide +kernel
theorem dX7_step_248 : decode cX7_step 248 = .ok (.aload_n 0, 1) := by decide +kernel
theorem dX7_step_249 : decode cX7_step 249 = .ok (.dup, 1) := by decide +kernel
theorem dX7_step_250 : decode cX7_step 250 = .ok (.getfield 72, 3) := by decide +kernel
theorem dX7_step_253 : decode cX7_step 253 = .ok (.iconst 1, 1) := by decide +kernel
theorem dX7_step_254 : decode cX7_step 254 = .ok (.iadd, 1) := by decide +kernel
theorem dX7_step_255 : decode cX7_step 255 = .ok (.putfield 72, 3) := by decide +kernel
theorem dX7_step_258 : decode cX7_step 258 = .ok (.iload_n 1, 1) := by decide +kernel
theorem dX7_step_259 : decode cX7_step 259 = .ok (.bipush 59, 2) := by decide +kernel
theorem dX7_step_261 : decode cX7_step 261 = .ok (.if_icmp .eq 8, 3) := by decide +kernel
theorem dX7_step_264 : decode cX7_step 264 = .ok (.aload_n 0, 1) := by decide +kernel
theorem dX7_step_265 : decode cX7_step 265 = .ok (.iconst 1, 1) := by decide +kernel
theorem dX7_step_266 : decode cX7_step 266 = .ok (.invokevirtual 90, 3) := by decide +kernel
theorem dX7_step_269 : decode cX7_step 269 = .ok (.return_, 1) := by decide +kernel
theorem dX7_number_0 : decode cX7_number 0 = .ok (.aload_n 0, 1) := by decide +kernel
theorem dX7_number_1 : decode cX7_number 1 = .ok (.getfield 60, 3) := by decide +kernel
theorem dX7_number_4 : decode cX7_number 4 = .ok (.ifCond .ne 16, 3) := by decide +kernel
theorem dX7_number_7 : decode cX7_number 7 = .ok (.aload_n 0, 1) := by decide +kernel
theorem dX7_number_8 : decode cX7_number 8 = .ok (.getfield 69, 3) := by decide +kernel
theorem dX7_number_11 : decode cX7_number 11 = .ok (.iconst 2, 1) := by decide +kernel
theorem dX7_number_12 : decode cX7_number 12 = .ok (.if_icmp .eq 8, 3) := by decide +kernel
theorem dX7_number_15 : decode cX7_number 15 = .ok (.aload_n 0, 1) := by decide +kernel
theorem dX7_number_16 : decode cX7_number 16 = .ok (.iconst 2, 1) := by decide +kernel
theorem dX7_number_17 : decode cX7_number 17 = .ok (.invokevirtual 90, 3) := by decide +kernel
theorem dX7_number_20 : decode cX7_number 20 = .ok (.aload_n 0, 1) := by decide +kernel
theorem dX7_number_21 : decode cX7_number 21 = .ok (.getfield 60, 3) := by decide +kernel
theorem dX7_number_24 : decode cX7_number 24 = .ok (.ifCond .ne 23, 3) := by decide +kernel
theorem dX7_number_27 : decode cX7_number 27 = .ok (.aload_n 0, 1) := by decide +kernel
theorem dX7_number_28 : decode cX7_number 28 = .ok (.getfield 79, 3) := by decide +kernel
theorem dX7_number_31 : decode cX7_number 31 = .ok (.i2l, 1) := by decide +kernel
theorem dX7_number_32 : decode cX7_number 32 = .ok (.iload_n 1, 1) := by decide +kernel
theorem dX7_number_33 : decode cX7_number 33 = .ok (.i2l, 1) := by decide +kernel
theorem dX7_number_34 : decode cX7_number 34 = .ok (.iload_n 2, 1) := by decide +kernel
theorem dX7_number_35 : decode cX7_number 35 = .ok (.i2l, 1) := by decide +kernel
theorem dX7_number_36 : decode cX7_number 36 = .ok (.invokestatic 52, 3) := by decide +kernel
theorem dX7_number_39 : decode cX7_number 39 = .ok (.ifCond .ne 8, 3) := by decide +kernel
theorem dX7_number_42 : decode cX7_number 42 = .ok (.aload_n 0, 1) := by decide +kernel
theorem dX7_number_43 : decode cX7_number 43 = .ok (.iconst 3, 1) := by decide +kernel
theorem dX7_number_44 : decode cX7_number 44 = .ok (.invokevirtual 90, 3) := by decide +kernel
theorem dX7_number_47 : decode cX7_number 47 = .ok (.aload_n 0, 1) := by decide +kernel
theorem dX7_number_48 : decode cX7_number 48 = .ok (.getfield 60, 3) := by decide +kernel
theorem dX7_number_51 : decode cX7_number 51 = .ok (.ifCond .ne 10, 3) := by decide +kernel
theorem dX7_number_54 : decode cX7_number 54 = .ok (.aload_n 0, 1) := by decide +kernel
theorem dX7_number_55 : decode cX7_number 55 = .ok (.getfield 79, 3) := by decide +kernel
theorem dX7_number_58 : decode cX7_number 58 = .ok (.goto 4, 3) := by decide +kernel
theorem dX7_number_61 : decode cX7_number 61 = .ok (.iload_n 1, 1) := by decide +kernel
theorem dX7_number_62 : decode cX7_number 62 = .ok (.istore_n 3, 1) := by decide +kernel
theorem dX7_number_63 : decode cX7_number 63 = .ok (.aload_n 0, 1) := by decide +kernel
theorem dX7_number_64 : decode cX7_number 64 = .ok (.invokevirtual 94, 3) := by decide +kernel
theorem dX7_number_67 : decode cX7_number 67 = .ok (.iload_n 3, 1) := by decide +kernel
theorem dX7_number_68 : decode cX7_number 68 = .ok (.ireturn, 1) := by decide +kernel
theorem dX7_treeHere_0 : decode cX7_treeHere 0 = .ok (.aload_n 0, 1) := by decide +kernel
theorem dX7_treeHere_1 : decode cX7_treeHere 1 = .ok (.iconst 0, 1) := by decide +kernel
theorem dX7_treeHere_2 : decode cX7_treeHere 2 = .ok (.iconst 5, 1) := by decide +kernel
theorem dX7_treeHere_3 : decode cX7_treeHere 3 = .ok (.invokevirtual 97, 3) := by decide +kernel
theorem dX7_treeHere_6 : decode cX7_treeHere 6 = .ok (.istore_n 1, 1) := by decide +kernel
theorem dX7_treeHere_7 : decode cX7_treeHere 7 = .ok (.aload_n 0, 1) := by decide +kernel
theorem dX7_treeHere_8 : decode cX7_treeHere 8 = .ok (.iload_n 1, 1) := by decide +kernel
theorem dX7_treeHere_9 : decode cX7_treeHere 9 = .ok (.aload_n 0, 1) := by decide +kernel
theorem dX7_treeHere_10 : decode cX7_treeHere 10 = .ok (.getfield 101, 3) := by decide +kernel
theorem dX7_treeHere_13 : decode cX7_treeHere 13 = .ok (.if_icmp .le 7, 3) := by decide +kernel
theorem dX7_treeHere_16 : decode cX7_treeHere 16 = .ok (.iload_n 1, 1) := by decide +kernel
theorem dX7_treeHere_17 : decode cX7_treeHere 17 = .ok (.goto 7, 3) := by decide +kernel
theorem dX7_treeHere_20 : decode cX7_treeHere 20 = .ok (.aload_n 0, 1) := by decide +kernel
theorem dX7_treeHere_21 : decode cX7_treeHere 21 = .ok (.getfield 101, 3) := by decide +kernel
theorem dX7_treeHere_24 : decode cX7_treeHere 24 = .ok (.putfield 101, 3) := by decide +kernel
theorem dX7_treeHere_27 : decode cX7_treeHere 27 = .ok (.iload_n 1, 1) := by decide +kernel
theorem dX7_treeHere_28 : decode cX7_treeHere 28 = .ok (.ireturn, 1) := by decide +kernel
theorem dX7_readRoot_0 : decode cX7_readRoot 0 = .ok (.aload_n 0, 1) := by decide +kernel
theorem dX7_readRoot_1 : decode cX7_readRoot 1 = .ok (.getfield 13, 3) := by decide +kernel
theorem dX7_readRoot_4 : decode cX7_readRoot 4 = .ok (.bipush 42, 2) := by decide +kernel
theorem dX7_readRoot_6 : decode cX7_readRoot 6 = .ok (.iaload, 1) := by decide +kernel
theorem dX7_readRoot_7 : decode cX7_readRoot 7 = .ok (.istore_n 1, 1) := by decide +kernel
theorem dX7_readRoot_8 : decode cX7_readRoot 8 = .ok (.aload_n 0, 1) := by decide +kernel
theorem dX7_readRoot_9 : decode cX7_readRoot 9 = .ok (.invokevirtual 104, 3) := by decide +kernel
theorem dX7_readRoot_12 : decode cX7_readRoot 12 = .ok (.istore_n 2, 1) := by decide +kernel
theorem dX7_readRoot_13 : decode cX7_readRoot 13 = .ok (.aload_n 0, 1) := by decide +kernel
theorem dX7_readRoot_14 : decode cX7_readRoot 14 = .ok (.getfield 60, 3) := by decide +kernel
theorem dX7_readRoot_17 : decode cX7_readRoot 17 = .ok (.ifCond .ne 24, 3) := by decide +kernel
theorem dX7_readRoot_20 : decode cX7_readRoot 20 = .ok (.aload_n 0, 1) := by decide +kernel
theorem dX7_readRoot_21 : decode cX7_readRoot 21 = .ok (.getfield 69, 3) := by decide +kernel
theorem dX7_readRoot_24 : decode cX7_readRoot 24 = .ok (.iconst 2, 1) := by decide +kernel
theorem dX7_readRoot_25 : decode cX7_readRoot 25 = .ok (.if_icmp .ne 16, 3) := by decide +kernel
theorem dX7_readRoot_28 : decode cX7_readRoot 28 = .ok (.aload_n 0, 1) := by decide +kernel
theorem dX7_readRoot_29 : decode cX7_readRoot 29 = .ok (.getfield 79, 3) := by decide +kernel
theorem dX7_readRoot_32 : decode cX7_readRoot 32 = .ok (.iload_n 2, 1) := by decide +kernel
theorem dX7_readRoot_33 : decode cX7_readRoot 33 = .ok (.if_icmp .ne 8, 3) := by decide +kernel
theorem dX7_readRoot_36 : decode cX7_readRoot 36 = .ok (.aload_n 0, 1) := by decide +kernel
theorem dX7_readRoot_37 : decode cX7_readRoot 37 = .ok (.iconst 3, 1) := by decide +kernel
theorem dX7_readRoot_38 : decode cX7_readRoot 38 = .ok (.invokevirtual 90, 3) := by decide +kernel
theorem dX7_readRoot_41 : decode cX7_readRoot 41 = .ok (.aload_n 0, 1) := by decide +kernel
theorem dX7_readRoot_42 : decode cX7_readRoot 42 = .ok (.getfield 13, 3) := by decide +kernel
theorem dX7_readRoot_45 : decode cX7_readRoot 45 = .ok (.bipush 6, 2) := by decide +kernel
theorem dX7_readRoot_47 : decode cX7_readRoot 47 = .ok (.iload_n 1, 1) := by decide +kernel
theorem dX7_readRoot_48 : decode cX7_readRoot 48 = .ok (.iadd, 1) := by decide +kernel
theorem dX7_readRoot_49 : decode cX7_readRoot 49 = .ok (.iload_n 2, 1) := by decide +kernel
theorem dX7_readRoot_50 : decode cX7_readRoot 50 = .ok (.iastore, 1) := by decide +kernel
theorem dX7_readRoot_51 : decode cX7_readRoot 51 = .ok (.aload_n 0, 1) := by decide +kernel
theorem dX7_readRoot_52 : decode cX7_readRoot 52 = .ok (.getfield 13, 3) := by decide +kernel
theorem dX7_readRoot_55 : decode cX7_readRoot 55 = .ok (.bipush 15, 2) := by decide +kernel
theorem dX7_readRoot_57 : decode cX7_readRoot 57 = .ok (.iload_n 1, 1) := by decide +kernel
theorem dX7_readRoot_58 : decode cX7_readRoot 58 = .ok (.iadd, 1) := by decide +kernel
theorem dX7_readRoot_59 : decode cX7_readRoot 59 = .ok (.aload_n 0, 1) := by decide +kernel
theorem dX7_readRoot_60 : decode cX7_readRoot 60 = .ok (.invokevirtual 104, 3) := by decide +kernel
theorem dX7_readRoot_63 : decode cX7_readRoot 63 = .ok (.iastore, 1) := by decide +kernel
theorem dX7_readRoot_64 : decode cX7_readRoot 64 = .ok (.aload_n 0, 1) := by decide +kernel
theorem dX7_readRoot_65 : decode cX7_readRoot 65 = .ok (.getfield 13, 3) := by decide +kernel
theorem dX7_readRoot_68 : decode cX7_readRoot 68 = .ok (.bipush 24, 2) := by decide +kernel
theorem dX7_readRoot_70 : decode cX7_readRoot 70 = .ok (.iload_n 1, 1) := by decide +kernel
theorem dX7_readRoot_71 : decode cX7_readRoot 71 = .ok (.iadd, 1) := by decide +kernel
theorem dX7_readRoot_72 : decode cX7_readRoot 72 = .ok (.aload_n 0, 1) := by decide +kernel
theorem dX7_readRoot_73 : decode cX7_readRoot 73 = .ok (.iconst 1, 1) := by decide +kernel
theorem dX7_readRoot_74 : decode cX7_readRoot 74 = .ok (.bipush 9, 2) := by decide +kernel
theorem dX7_readRoot_76 : decode cX7_readRoot 76 = .ok (.invokevirtual 97, 3) := by decide +kernel
theorem dX7_readRoot_79 : decode cX7_readRoot 79 = .ok (.iastore, 1) := by decide +kernel
theorem dX7_readRoot_80 : decode cX7_readRoot 80 = .ok (.aload_n 0, 1) := by decide +kernel
theorem dX7_readRoot_81 : decode cX7_readRoot 81 = .ok (.getfield 13, 3) := by decide +kernel
theorem dX7_readRoot_84 : decode cX7_readRoot 84 = .ok (.bipush 42, 2) := by decide +kernel
theorem dX7_readRoot_86 : decode cX7_readRoot 86 = .ok (.dup2, 1) := by decide +kernel
theorem dX7_readRoot_87 : decode cX7_readRoot 87 = .ok (.iaload, 1) := by decide +kernel
theorem dX7_readRoot_88 : decode cX7_readRoot 88 = .ok (.iconst 1, 1) := by decide +kernel
theorem dX7_readRoot_89 : decode cX7_readRoot 89 = .ok (.iadd, 1) := by decide +kernel
theorem dX7_readRoot_90 : decode cX7_readRoot 90 = .ok (.iastore, 1) := by decide +kernel
theorem dX7_readRoot_91 : decode cX7_readRoot 91 = .ok (.return_, 1) := by decide +kernel
theorem dX7_readMore_0 : decode cX7_readMore 0 = .ok (.iload_n 1, 1) := by decide +kernel
theorem dX7_readMore_1 : decode cX7_readMore 1 = .ok (.iconst 3, 1) := by decide +kernel
theorem dX7_readMore_2 : decode cX7_readMore 2 = .ok (.if_icmp .gt 26, 3) := by decide +kernel
theorem dX7_readMore_5 : decode cX7_readMore 5 = .ok (.aload_n 0, 1) := by decide +kernel
theorem dX7_readMore_6 : decode cX7_readMore 6 = .ok (.getfield 13, 3) := by decide +kernel
theorem dX7_readMore_9 : decode cX7_readMore 9 = .ok (.aload_n 0, 1) := by decide +kernel
theorem dX7_readMore_10 : decode cX7_readMore 10 = .ok (.getfield 108, 3) := by decide +kernel
theorem dX7_readMore_13 : decode cX7_readMore 13 = .ok (.iload_n 1, 1) := by decide +kernel
theorem dX7_readMore_14 : decode cX7_readMore 14 = .ok (.iastore, 1) := by decide +kernel
theorem dX7_readMore_15 : decode cX7_readMore 15 = .ok (.aload_n 0, 1) := by decide +kernel
theorem dX7_readMore_16 : decode cX7_readMore 16 = .ok (.dup, 1) := by decide +kernel
theorem dX7_readMore_17 : decode cX7_readMore 17 = .ok (.getfield 108, 3) := by decide +kernel
theorem dX7_readMore_20 : decode cX7_readMore 20 = .ok (.iconst 1, 1) := by decide +kernel
theorem dX7_readMore_21 : decode cX7_readMore 21 = .ok (.iadd, 1) := by decide +kernel
theorem dX7_readMore_22 : decode cX7_readMore 22 = .ok (.putfield 108, 3) := by decide +kernel
theorem dX7_readMore_25 : decode cX7_readMore 25 = .ok (.goto 101, 3) := by decide +kernel
theorem dX7_readMore_28 : decode cX7_readMore 28 = .ok (.iload_n 1, 1) := by decide +kernel
theorem dX7_readMore_29 : decode cX7_readMore 29 = .ok (.iconst 4, 1) := by decide +kernel
theorem dX7_readMore_30 : decode cX7_readMore 30 = .ok (.if_icmp .ne 10, 3) := by decide +kernel
theorem dX7_readMore_33 : decode cX7_readMore 33 = .ok (.aload_n 0, 1) := by decide +kernel
theorem dX7_readMore_34 : decode cX7_readMore 34 = .ok (.invokevirtual 111, 3) := by decide +kernel
theorem dX7_readMore_37 : decode cX7_readMore 37 = .ok (.goto 89, 3) := by decide +kernel
theorem dX7_readMore_40 : decode cX7_readMore 40 = .ok (.iload_n 1, 1) := by decide +kernel
theorem dX7_readMore_41 : decode cX7_readMore 41 = .ok (.iconst 5, 1) := by decide +kernel
theorem dX7_readMore_42 : decode cX7_readMore 42 = .ok (.if_icmp .ne 70, 3) := by decide +kernel
theorem dX7_readMore_45 : decode cX7_readMore 45 = .ok (.aload_n 0, 1) := by decide +kernel
theorem dX7_readMore_46 : decode cX7_readMore 46 = .ok (.getfield 13, 3) := by decide +kernel
theorem dX7_readMore_49 : decode cX7_readMore 49 = .ok (.bipush 62, 2) := by decide +kernel
theorem dX7_readMore_51 : decode cX7_readMore 51 = .ok (.iaload, 1) := by decide +kernel
theorem dX7_readMore_52 : decode cX7_readMore 52 = .ok (.istore_n 2, 1) := by decide +kernel
theorem dX7_readMore_53 : decode cX7_readMore 53 = .ok (.aload_n 0, 1) := by decide +kernel
theorem dX7_readMore_54 : decode cX7_readMore 54 = .ok (.getfield 13, 3) := by decide +kernel
theorem dX7_readMore_57 : decode cX7_readMore 57 = .ok (.bipush 44, 2) := by decide +kernel
theorem dX7_readMore_59 : decode cX7_readMore 59 = .ok (.iload_n 2, 1) := by decide +kernel
theorem dX7_readMore_60 : decode cX7_readMore 60 = .ok (.iadd, 1) := by decide +kernel
theorem dX7_readMore_61 : decode cX7_readMore 61 = .ok (.aload_n 0, 1) := by decide +kernel
theorem dX7_readMore_62 : decode cX7_readMore 62 = .ok (.iconst 0, 1) := by decide +kernel
theorem dX7_readMore_63 : decode cX7_readMore 63 = .ok (.bipush 23, 2) := by decide +kernel
theorem dX7_readMore_65 : decode cX7_readMore 65 = .ok (.invokevirtual 97, 3) := by decide +kernel
theorem dX7_readMore_68 : decode cX7_readMore 68 = .ok (.iastore, 1) := by decide +kernel
theorem dX7_readMore_69 : decode cX7_readMore 69 = .ok (.aload_n 0, 1) := by decide +kernel
theorem dX7_readMore_70 : decode cX7_readMore 70 = .ok (.getfield 13, 3) := by decide +kernel
theorem dX7_readMore_73 : decode cX7_readMore 73 = .ok (.bipush 50, 2) := by decide +kernel
theorem dX7_readMore_75 : decode cX7_readMore 75 = .ok (.iload_n 2, 1) := by decide +kernel
theorem dX7_readMore_76 : decode cX7_readMore 76 = .ok (.iadd, 1) := by decide +kernel
theorem dX7_readMore_77 : decode cX7_readMore 77 = .ok (.aload_n 0, 1) := by decide +kernel
theorem dX7_readMore_78 : decode cX7_readMore 78 = .ok (.invokevirtual 104, 3) := by decide +kernel
theorem dX7_readMore_81 : decode cX7_readMore 81 = .ok (.iastore, 1) := by decide +kernel
theorem dX7_readMore_82 : decode cX7_readMore 82 = .ok (.aload_n 0, 1) := by decide +kernel
theorem dX7_readMore_83 : decode cX7_readMore 83 = .ok (.getfield 13, 3) := by decide +kernel
theorem dX7_readMore_86 : decode cX7_readMore 86 = .ok (.bipush 56, 2) := by decide +kernel
theorem dX7_readMore_88 : decode cX7_readMore 88 = .ok (.iload_n 2, 1) := by decide +kernel
theorem dX7_readMore_89 : decode cX7_readMore 89 = .ok (.iadd, 1) := by decide +kernel
theorem dX7_readMore_90 : decode cX7_readMore 90 = .ok (.aload_n 0, 1) := by decide +kernel
theorem dX7_readMore_91 : decode cX7_readMore 91 = .ok (.iconst 1, 1) := by decide +kernel
theorem dX7_readMore_92 : decode cX7_readMore 92 = .ok (.bipush 60, 2) := by decide +kernel
theorem dX7_readMore_94 : decode cX7_readMore 94 = .ok (.invokevirtual 97, 3) := by decide +kernel
theorem dX7_readMore_97 : decode cX7_readMore 97 = .ok (.iastore, 1) := by decide +kernel
theorem dX7_readMore_98 : decode cX7_readMore 98 = .ok (.aload_n 0, 1) := by decide +kernel
theorem dX7_readMore_99 : decode cX7_readMore 99 = .ok (.getfield 13, 3) := by decide +kernel
theorem dX7_readMore_102 : decode cX7_readMore 102 = .ok (.bipush 62, 2) := by decide +kernel
theorem dX7_readMore_104 : decode cX7_readMore 104 = .ok (.dup2, 1) := by decide +kernel
theorem dX7_readMore_105 : decode cX7_readMore 105 = .ok (.iaload, 1) := by decide +kernel
theorem dX7_readMore_106 : decode cX7_readMore 106 = .ok (.iconst 1, 1) := by decide +kernel
theorem dX7_readMore_107 : decode cX7_readMore 107 = .ok (.iadd, 1) := by decide +kernel
theorem dX7_readMore_108 : decode cX7_readMore 108 = .ok (.iastore, 1) := by decide +kernel
theorem dX7_readMore_109 : decode cX7_readMore 109 = .ok (.goto 17, 3) := by decide +kernel
theorem dX7_readMore_112 : decode cX7_readMore 112 = .ok (.aload_n 0, 1) := by decide +kernel
theorem dX7_readMore_113 : decode cX7_readMore 113 = .ok (.getfield 13, 3) := by decide +kernel
theorem dX7_readMore_116 : decode cX7_readMore 116 = .ok (.bipush 43, 2) := by decide +kernel
theorem dX7_readMore_118 : decode cX7_readMore 118 = .ok (.aload_n 0, 1) := by decide +kernel
theorem dX7_readMore_119 : decode cX7_readMore 119 = .ok (.iconst 0, 1) := by decide +kernel
theorem dX7_readMore_120 : decode cX7_readMore 120 = .ok (.bipush 20, 2) := by decide +kernel
theorem dX7_readMore_122 : decode cX7_readMore 122 = .ok (.invokevirtual 97, 3) := by decide +kernel
theorem dX7_readMore_125 : decode cX7_readMore 125 = .ok (.iastore, 1) := by decide +kernel
theorem dX7_readMore_126 : decode cX7_readMore 126 = .ok (.return_, 1) := by decide +kernel
theorem dX7_isFull_0 : decode cX7_isFull 0 = .ok (.iload_n 1, 1) := by decide +kernel
theorem dX7_isFull_1 : decode cX7_isFull 1 = .ok (.iconst 3, 1) := by decide +kernel
theorem dX7_isFull_2 : decode cX7_isFull 2 = .ok (.if_icmp .gt 12, 3) := by decide +kernel
theorem dX7_isFull_5 : decode cX7_isFull 5 = .ok (.aload_n 0, 1) := by decide +kernel
theorem dX7_isFull_6 : decode cX7_isFull 6 = .ok (.getfield 108, 3) := by decide +kernel
theorem dX7_isFull_9 : decode cX7_isFull 9 = .ok (.bipush 6, 2) := by decide +kernel
theorem dX7_isFull_11 : decode cX7_isFull 11 = .ok (.if_icmp .eq 37, 3) := by decide +kernel
theorem dX7_isFull_14 : decode cX7_isFull 14 = .ok (.iload_n 1, 1) := by decide +kernel
theorem dX7_isFull_15 : decode cX7_isFull 15 = .ok (.iconst 4, 1) := by decide +kernel
theorem dX7_isFull_16 : decode cX7_isFull 16 = .ok (.if_icmp .ne 15, 3) := by decide +kernel
theorem dX7_isFull_19 : decode cX7_isFull 19 = .ok (.aload_n 0, 1) := by decide +kernel
theorem dX7_isFull_20 : decode cX7_isFull 20 = .ok (.getfield 13, 3) := by decide +kernel
theorem dX7_isFull_23 : decode cX7_isFull 23 = .ok (.bipush 42, 2) := by decide +kernel
theorem dX7_isFull_25 : decode cX7_isFull 25 = .ok (.iaload, 1) := by decide +kernel
theorem dX7_isFull_26 : decode cX7_isFull 26 = .ok (.bipush 9, 2) := by decide +kernel
theorem dX7_isFull_28 : decode cX7_isFull 28 = .ok (.if_icmp .eq 20, 3) := by decide +kernel
theorem dX7_isFull_31 : decode cX7_isFull 31 = .ok (.iload_n 1, 1) := by decide +kernel
theorem dX7_isFull_32 : decode cX7_isFull 32 = .ok (.iconst 5, 1) := by decide +kernel
theorem dX7_isFull_33 : decode cX7_isFull 33 = .ok (.if_icmp .ne 19, 3) := by decide +kernel
theorem dX7_isFull_36 : decode cX7_isFull 36 = .ok (.aload_n 0, 1) := by decide +kernel
theorem dX7_isFull_37 : decode cX7_isFull 37 = .ok (.getfield 13, 3) := by decide +kernel
theorem dX7_isFull_40 : decode cX7_isFull 40 = .ok (.bipush 62, 2) := by decide +kernel
theorem dX7_isFull_42 : decode cX7_isFull 42 = .ok (.iaload, 1) := by decide +kernel
theorem dX7_isFull_43 : decode cX7_isFull 43 = .ok (.bipush 6, 2) := by decide +kernel
theorem dX7_isFull_45 : decode cX7_isFull 45 = .ok (.if_icmp .ne 7, 3) := by decide +kernel
theorem dX7_isFull_48 : decode cX7_isFull 48 = .ok (.iconst 1, 1) := by decide +kernel
theorem dX7_isFull_49 : decode cX7_isFull 49 = .ok (.goto 4, 3) := by decide +kernel
theorem dX7_isFull_52 : decode cX7_isFull 52 = .ok (.iconst 0, 1) := by decide +kernel
theorem dX7_isFull_53 : decode cX7_isFull 53 = .ok (.ireturn, 1) := by decide +kernel
theorem dX7_readLine_0 : decode cX7_readLine 0 = .ok (.aload_n 0, 1) := by decide +kernel
theorem dX7_readLine_1 : decode cX7_readLine 1 = .ok (.invokevirtual 114, 3) := by decide +kernel
theorem dX7_readLine_4 : decode cX7_readLine 4 = .ok (.istore_n 1, 1) := by decide +kernel
theorem dX7_readLine_5 : decode cX7_readLine 5 = .ok (.iload_n 1, 1) := by decide +kernel
theorem dX7_readLine_6 : decode cX7_readLine 6 = .ok (.i2l, 1) := by decide +kernel
theorem dX7_readLine_7 : decode cX7_readLine 7 = .ok (.lconst 0, 1) := by decide +kernel
theorem dX7_readLine_8 : decode cX7_readLine 8 = .ok (.ldc2_w 117, 3) := by decide +kernel
theorem dX7_readLine_11 : decode cX7_readLine 11 = .ok (.invokestatic 52, 3) := by decide +kernel
theorem dX7_readLine_14 : decode cX7_readLine 14 = .ok (.ifCond .ne 9, 3) := by decide +kernel
theorem dX7_readLine_17 : decode cX7_readLine 17 = .ok (.aload_n 0, 1) := by decide +kernel
theorem dX7_readLine_18 : decode cX7_readLine 18 = .ok (.iconst 2, 1) := by decide +kernel
theorem dX7_readLine_19 : decode cX7_readLine 19 = .ok (.invokevirtual 90, 3) := by decide +kernel
theorem dX7_readLine_22 : decode cX7_readLine 22 = .ok (.return_, 1) := by decide +kernel
theorem dX7_readLine_23 : decode cX7_readLine 23 = .ok (.aload_n 0, 1) := by decide +kernel
theorem dX7_readLine_24 : decode cX7_readLine 24 = .ok (.iload_n 1, 1) := by decide +kernel
theorem dX7_readLine_25 : decode cX7_readLine 25 = .ok (.invokevirtual 119, 3) := by decide +kernel
theorem dX7_readLine_28 : decode cX7_readLine 28 = .ok (.ifCond .eq 8, 3) := by decide +kernel
theorem dX7_readLine_31 : decode cX7_readLine 31 = .ok (.aload_n 0, 1) := by decide +kernel
theorem dX7_readLine_32 : decode cX7_readLine 32 = .ok (.iconst 5, 1) := by decide +kernel
theorem dX7_readLine_33 : decode cX7_readLine 33 = .ok (.invokevirtual 90, 3) := by decide +kernel
theorem dX7_readLine_36 : decode cX7_readLine 36 = .ok (.iload_n 1, 1) := by decide +kernel
theorem dX7_readLine_37 : decode cX7_readLine 37 = .ok (.bipush 6, 2) := by decide +kernel
theorem dX7_readLine_39 : decode cX7_readLine 39 = .ok (.if_icmp .ne 15, 3) := by decide +kernel
theorem dX7_readLine_42 : decode cX7_readLine 42 = .ok (.aload_n 0, 1) := by decide +kernel
theorem dX7_readLine_43 : decode cX7_readLine 43 = .ok (.getfield 123, 3) := by decide +kernel
theorem dX7_readLine_46 : decode cX7_readLine 46 = .ok (.ifCond .eq 8, 3) := by decide +kernel
theorem dX7_readLine_49 : decode cX7_readLine 49 = .ok (.aload_n 0, 1) := by decide +kernel
theorem dX7_readLine_50 : decode cX7_readLine 50 = .ok (.iconst 4, 1) := by decide +kernel
theorem dX7_readLine_51 : decode cX7_readLine 51 = .ok (.invokevirtual 90, 3) := by decide +kernel
theorem dX7_readLine_54 : decode cX7_readLine 54 = .ok (.aload_n 0, 1) := by decide +kernel
theorem dX7_readLine_55 : decode cX7_readLine 55 = .ok (.aload_n 0, 1) := by decide +kernel
theorem dX7_readLine_56 : decode cX7_readLine 56 = .ok (.getfield 123, 3) := by decide +kernel
theorem dX7_readLine_59 : decode cX7_readLine 59 = .ok (.ifCond .ne 9, 3) := by decide +kernel
theorem dX7_readLine_62 : decode cX7_readLine 62 = .ok (.iload_n 1, 1) := by decide +kernel
theorem dX7_readLine_63 : decode cX7_readLine 63 = .ok (.bipush 6, 2) := by decide +kernel
theorem dX7_readLine_65 : decode cX7_readLine 65 = .ok (.if_icmp .ne 7, 3) := by decide +kernel
theorem dX7_readLine_68 : decode cX7_readLine 68 = .ok (.iconst 1, 1) := by decide +kernel
theorem dX7_readLine_69 : decode cX7_readLine 69 = .ok (.goto 4, 3) := by decide +kernel
theorem dX7_readLine_72 : decode cX7_readLine 72 = .ok (.iconst 0, 1) := by decide +kernel
theorem dX7_readLine_73 : decode cX7_readLine 73 = .ok (.putfield 123, 3) := by decide +kernel
theorem dX7_readLine_76 : decode cX7_readLine 76 = .ok (.aload_n 0, 1) := by decide +kernel
theorem dX7_readLine_77 : decode cX7_readLine 77 = .ok (.invokevirtual 94, 3) := by decide +kernel
theorem dX7_readLine_80 : decode cX7_readLine 80 = .ok (.aload_n 0, 1) := by decide +kernel
theorem dX7_readLine_81 : decode cX7_readLine 81 = .ok (.getfield 60, 3) := by decide +kernel
theorem dX7_readLine_84 : decode cX7_readLine 84 = .ok (.ifCond .le 4, 3) := by decide +kernel
theorem dX7_readLine_87 : decode cX7_readLine 87 = .ok (.return_, 1) := by decide +kernel
theorem dX7_readLine_88 : decode cX7_readLine 88 = .ok (.aload_n 0, 1) := by decide +kernel
theorem dX7_readLine_89 : decode cX7_readLine 89 = .ok (.iload_n 1, 1) := by decide +kernel
theorem dX7_readLine_90 : decode cX7_readLine 90 = .ok (.invokevirtual 127, 3) := by decide +kernel
theorem dX7_readLine_93 : decode cX7_readLine 93 = .ok (.aload_n 0, 1) := by decide +kernel
theorem dX7_readLine_94 : decode cX7_readLine 94 = .ok (.getfield 60, 3) := by decide +kernel
theorem dX7_readLine_97 : decode cX7_readLine 97 = .ok (.ifCond .ne 16, 3) := by decide +kernel
theorem dX7_readLine_100 : decode cX7_readLine 100 = .ok (.aload_n 0, 1) := by decide +kernel
theorem dX7_readLine_101 : decode cX7_readLine 101 = .ok (.getfield 69, 3) := by decide +kernel
theorem dX7_readLine_104 : decode cX7_readLine 104 = .ok (.iconst 3, 1) := by decide +kernel
theorem dX7_readLine_105 : decode cX7_readLine 105 = .ok (.if_icmp .eq 8, 3) := by decide +kernel
theorem dX7_readLine_108 : decode cX7_readLine 108 = .ok (.aload_n 0, 1) := by decide +kernel
theorem dX7_readLine_109 : decode cX7_readLine 109 = .ok (.iconst 2, 1) := by decide +kernel
theorem dX7_readLine_110 : decode cX7_readLine 110 = .ok (.invokevirtual 90, 3) := by decide +kernel
theorem dX7_readLine_113 : decode cX7_readLine 113 = .ok (.aload_n 0, 1) := by decide +kernel
theorem dX7_readLine_114 : decode cX7_readLine 114 = .ok (.invokevirtual 94, 3) := by decide +kernel
theorem dX7_readLine_117 : decode cX7_readLine 117 = .ok (.return_, 1) := by decide +kernel
theorem dX7_text_0 : decode cX7_text 0 = .ok (.aload_n 0, 1) := by decide +kernel
theorem dX7_text_1 : decode cX7_text 1 = .ok (.iconst 0, 1) := by decide +kernel
theorem dX7_text_2 : decode cX7_text 2 = .ok (.putfield 60, 3) := by decide +kernel
theorem dX7_text_5 : decode cX7_text 5 = .ok (.aload_n 0, 1) := by decide +kernel
theorem dX7_text_6 : decode cX7_text 6 = .ok (.iconst 0, 1) := by decide +kernel
theorem dX7_text_7 : decode cX7_text 7 = .ok (.putfield 72, 3) := by decide +kernel
theorem dX7_text_10 : decode cX7_text 10 = .ok (.aload_n 0, 1) := by decide +kernel
theorem dX7_text_11 : decode cX7_text 11 = .ok (.iconst 0, 1) := by decide +kernel
theorem dX7_text_12 : decode cX7_text 12 = .ok (.putfield 108, 3) := by decide +kernel
theorem dX7_text_15 : decode cX7_text 15 = .ok (.aload_n 0, 1) := by decide +kernel
theorem dX7_text_16 : decode cX7_text 16 = .ok (.iconst 0, 1) := by decide +kernel
theorem dX7_text_17 : decode cX7_text 17 = .ok (.putfield 123, 3) := by decide +kernel
theorem dX7_text_20 : decode cX7_text 20 = .ok (.aload_n 0, 1) := by decide +kernel
theorem dX7_text_21 : decode cX7_text 21 = .ok (.iconst (-1), 1) := by decide +kernel
theorem dX7_text_22 : decode cX7_text 22 = .ok (.putfield 101, 3) := by decide +kernel
theorem dX7_text_25 : decode cX7_text 25 = .ok (.iconst 0, 1) := by decide +kernel
theorem dX7_text_26 : decode cX7_text 26 = .ok (.istore_n 1, 1) := by decide +kernel
theorem dX7_text_27 : decode cX7_text 27 = .ok (.iconst 0, 1) := by decide +kernel
theorem dX7_text_28 : decode cX7_text 28 = .ok (.istore_n 2, 1) := by decide +kernel
theorem dX7_text_29 : decode cX7_text 29 = .ok (.iload_n 2, 1) := by decide +kernel
theorem dX7_text_30 : decode cX7_text 30 = .ok (.bipush 63, 2) := by decide +kernel
theorem dX7_text_32 : decode cX7_text 32 = .ok (.if_icmp .ge 16, 3) := by decide +kernel
theorem dX7_text_35 : decode cX7_text 35 = .ok (.aload_n 0, 1) := by decide +kernel
theorem dX7_text_36 : decode cX7_text 36 = .ok (.getfield 13, 3) := by decide +kernel
theorem dX7_text_39 : decode cX7_text 39 = .ok (.iload_n 2, 1) := by decide +kernel
theorem dX7_text_40 : decode cX7_text 40 = .ok (.iconst 0, 1) := by decide +kernel
theorem dX7_text_41 : decode cX7_text 41 = .ok (.iastore, 1) := by decide +kernel
theorem dX7_text_42 : decode cX7_text 42 = .ok (.iinc 2 1, 3) := by decide +kernel
theorem dX7_text_45 : decode cX7_text 45 = .ok (.goto (-16), 3) := by decide +kernel
theorem dX7_text_48 : decode cX7_text 48 = .ok (.aload_n 0, 1) := by decide +kernel
theorem dX7_text_49 : decode cX7_text 49 = .ok (.invokevirtual 94, 3) := by decide +kernel
theorem dX7_text_52 : decode cX7_text 52 = .ok (.aload_n 0, 1) := by decide +kernel
theorem dX7_text_53 : decode cX7_text 53 = .ok (.getfield 60, 3) := by decide +kernel
theorem dX7_text_56 : decode cX7_text 56 = .ok (.ifCond .ne 20, 3) := by decide +kernel
theorem dX7_text_59 : decode cX7_text 59 = .ok (.aload_n 0, 1) := by decide +kernel
theorem dX7_text_60 : decode cX7_text 60 = .ok (.getfield 69, 3) := by decide +kernel
theorem dX7_text_63 : decode cX7_text 63 = .ok (.ifCond .eq 13, 3) := by decide +kernel
theorem dX7_text_66 : decode cX7_text 66 = .ok (.aload_n 0, 1) := by decide +kernel
theorem dX7_text_67 : decode cX7_text 67 = .ok (.invokevirtual 130, 3) := by decide +kernel
theorem dX7_text_70 : decode cX7_text 70 = .ok (.iinc 1 1, 3) := by decide +kernel
theorem dX7_text_73 : decode cX7_text 73 = .ok (.goto (-21), 3) := by decide +kernel
theorem dX7_text_76 : decode cX7_text 76 = .ok (.aload_n 0, 1) := by decide +kernel
theorem dX7_text_77 : decode cX7_text 77 = .ok (.getfield 60, 3) := by decide +kernel
theorem dX7_text_80 : decode cX7_text 80 = .ok (.ifCond .ne 20, 3) := by decide +kernel
theorem dX7_text_83 : decode cX7_text 83 = .ok (.aload_n 0, 1) := by decide +kernel
theorem dX7_text_84 : decode cX7_text 84 = .ok (.getfield 101, 3) := by decide +kernel
theorem dX7_text_87 : decode cX7_text 87 = .ok (.aload_n 0, 1) := by decide +kernel
theorem dX7_text_88 : decode cX7_text 88 = .ok (.getfield 108, 3) := by decide +kernel
theorem dX7_text_91 : decode cX7_text 91 = .ok (.if_icmp .lt 9, 3) := by decide +kernel
theorem dX7_text_94 : decode cX7_text 94 = .ok (.aload_n 0, 1) := by decide +kernel
theorem dX7_text_95 : decode cX7_text 95 = .ok (.bipush 6, 2) := by decide +kernel
theorem dX7_text_97 : decode cX7_text 97 = .ok (.invokevirtual 90, 3) := by decide +kernel
theorem dX7_text_100 : decode cX7_text 100 = .ok (.aload_n 0, 1) := by decide +kernel
theorem dX7_text_101 : decode cX7_text 101 = .ok (.iconst 0, 1) := by decide +kernel
theorem dX7_text_102 : decode cX7_text 102 = .ok (.putfield 56, 3) := by decide +kernel
theorem dX7_text_105 : decode cX7_text 105 = .ok (.aload_n 0, 1) := by decide +kernel
theorem dX7_text_106 : decode cX7_text 106 = .ok (.aload_n 0, 1) := by decide +kernel
theorem dX7_text_107 : decode cX7_text 107 = .ok (.getfield 60, 3) := by decide +kernel
theorem dX7_text_110 : decode cX7_text 110 = .ok (.putfield 133, 3) := by decide +kernel
theorem dX7_text_113 : decode cX7_text 113 = .ok (.aload_n 0, 1) := by decide +kernel
theorem dX7_text_114 : decode cX7_text 114 = .ok (.getfield 60, 3) := by decide +kernel
theorem dX7_text_117 : decode cX7_text 117 = .ok (.ifCond .le 11, 3) := by decide +kernel
theorem dX7_text_120 : decode cX7_text 120 = .ok (.bipush (-10), 2) := by decide +kernel
theorem dX7_text_122 : decode cX7_text 122 = .ok (.aload_n 0, 1) := by decide +kernel
theorem dX7_text_123 : decode cX7_text 123 = .ok (.getfield 66, 3) := by decide +kernel
theorem dX7_text_126 : decode cX7_text 126 = .ok (.isub, 1) := by decide +kernel
theorem dX7_text_127 : decode cX7_text 127 = .ok (.ireturn, 1) := by decide +kernel
theorem dX7_text_128 : decode cX7_text 128 = .ok (.iconst 0, 1) := by decide +kernel
theorem dX7_text_129 : decode cX7_text 129 = .ok (.istore_n 2, 1) := by decide +kernel
theorem dX7_text_130 : decode cX7_text 130 = .ok (.iload_n 2, 1) := by decide +kernel
theorem dX7_text_131 : decode cX7_text 131 = .ok (.bipush 63, 2) := by decide +kernel
theorem dX7_text_133 : decode cX7_text 133 = .ok (.if_icmp .ge 21, 3) := by decide +kernel
theorem dX7_text_136 : decode cX7_text 136 = .ok (.aload_n 0, 1) := by decide +kernel
theorem dX7_text_137 : decode cX7_text 137 = .ok (.getfield 7, 3) := by decide +kernel
theorem dX7_text_140 : decode cX7_text 140 = .ok (.iload_n 2, 1) := by decide +kernel
theorem dX7_text_141 : decode cX7_text 141 = .ok (.aload_n 0, 1) := by decide +kernel
theorem dX7_text_142 : decode cX7_text 142 = .ok (.getfield 13, 3) := by decide +kernel
theorem dX7_text_145 : decode cX7_text 145 = .ok (.iload_n 2, 1) := by decide +kernel
