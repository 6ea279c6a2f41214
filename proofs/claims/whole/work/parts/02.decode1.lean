theorem dX0_init_0 : decode cX0_init 0 = .ok (.aload_n 0, 1) := by decide +kernel
theorem dX0_init_1 : decode cX0_init 1 = .ok (.invokespecial 3, 3) := by decide +kernel
theorem dX0_init_4 : decode cX0_init 4 = .ok (.return_, 1) := by decide +kernel
theorem dX0_below_0 : decode cX0_below 0 = .ok (.aload_n 0, 1) := by decide +kernel
theorem dX0_below_1 : decode cX0_below 1 = .ok (.bipush (-4), 2) := by decide +kernel
theorem dX0_below_3 : decode cX0_below 3 = .ok (.putfield 9, 3) := by decide +kernel
theorem dX0_below_6 : decode cX0_below 6 = .ok (.aload_n 0, 1) := by decide +kernel
theorem dX0_below_7 : decode cX0_below 7 = .ok (.iload_n 1, 1) := by decide +kernel
theorem dX0_below_8 : decode cX0_below 8 = .ok (.putfield 15, 3) := by decide +kernel
theorem dX0_below_11 : decode cX0_below 11 = .ok (.return_, 1) := by decide +kernel
theorem dX0_offer_0 : decode cX0_offer 0 = .ok (.iload_n 2, 1) := by decide +kernel
theorem dX0_offer_1 : decode cX0_offer 1 = .ok (.aload_n 0, 1) := by decide +kernel
theorem dX0_offer_2 : decode cX0_offer 2 = .ok (.getfield 15, 3) := by decide +kernel
theorem dX0_offer_5 : decode cX0_offer 5 = .ok (.if_icmp .ge 13, 3) := by decide +kernel
theorem dX0_offer_8 : decode cX0_offer 8 = .ok (.aload_n 0, 1) := by decide +kernel
theorem dX0_offer_9 : decode cX0_offer 9 = .ok (.iload_n 1, 1) := by decide +kernel
theorem dX0_offer_10 : decode cX0_offer 10 = .ok (.putfield 9, 3) := by decide +kernel
theorem dX0_offer_13 : decode cX0_offer 13 = .ok (.aload_n 0, 1) := by decide +kernel
theorem dX0_offer_14 : decode cX0_offer 14 = .ok (.iload_n 2, 1) := by decide +kernel
theorem dX0_offer_15 : decode cX0_offer 15 = .ok (.putfield 15, 3) := by decide +kernel
theorem dX0_offer_18 : decode cX0_offer 18 = .ok (.return_, 1) := by decide +kernel
theorem dX0_isNone_0 : decode cX0_isNone 0 = .ok (.aload_n 0, 1) := by decide +kernel
theorem dX0_isNone_1 : decode cX0_isNone 1 = .ok (.getfield 9, 3) := by decide +kernel
theorem dX0_isNone_4 : decode cX0_isNone 4 = .ok (.bipush (-4), 2) := by decide +kernel
theorem dX0_isNone_6 : decode cX0_isNone 6 = .ok (.if_icmp .ne 7, 3) := by decide +kernel
theorem dX0_isNone_9 : decode cX0_isNone 9 = .ok (.iconst 1, 1) := by decide +kernel
theorem dX0_isNone_10 : decode cX0_isNone 10 = .ok (.goto 4, 3) := by decide +kernel
theorem dX0_isNone_13 : decode cX0_isNone 13 = .ok (.iconst 0, 1) := by decide +kernel
theorem dX0_isNone_14 : decode cX0_isNone 14 = .ok (.ireturn, 1) := by decide +kernel
theorem dX0_told_0 : decode cX0_told 0 = .ok (.iload_n 1, 1) := by decide +kernel
theorem dX0_told_1 : decode cX0_told 1 = .ok (.ifCond .eq 10, 3) := by decide +kernel
theorem dX0_told_4 : decode cX0_told 4 = .ok (.aload_n 0, 1) := by decide +kernel
theorem dX0_told_5 : decode cX0_told 5 = .ok (.invokevirtual 18, 3) := by decide +kernel
theorem dX0_told_8 : decode cX0_told 8 = .ok (.ifCond .eq 10, 3) := by decide +kernel
theorem dX0_told_11 : decode cX0_told 11 = .ok (.aload_n 0, 1) := by decide +kernel
theorem dX0_told_12 : decode cX0_told 12 = .ok (.getfield 9, 3) := by decide +kernel
theorem dX0_told_15 : decode cX0_told 15 = .ok (.goto 7, 3) := by decide +kernel
theorem dX0_told_18 : decode cX0_told 18 = .ok (.aload_n 0, 1) := by decide +kernel
theorem dX0_told_19 : decode cX0_told 19 = .ok (.getfield 15, 3) := by decide +kernel
theorem dX0_told_22 : decode cX0_told 22 = .ok (.ireturn, 1) := by decide +kernel
theorem dX1_init_0 : decode cX1_init 0 = .ok (.aload_n 0, 1) := by decide +kernel
theorem dX1_init_1 : decode cX1_init 1 = .ok (.invokespecial 3, 3) := by decide +kernel
theorem dX1_init_4 : decode cX1_init 4 = .ok (.aload_n 0, 1) := by decide +kernel
theorem dX1_init_5 : decode cX1_init 5 = .ok (.bipush 6, 2) := by decide +kernel
theorem dX1_init_7 : decode cX1_init 7 = .ok (.newarray .int, 2) := by decide +kernel
theorem dX1_init_9 : decode cX1_init 9 = .ok (.putfield 9, 3) := by decide +kernel
theorem dX1_init_12 : decode cX1_init 12 = .ok (.aload_n 0, 1) := by decide +kernel
theorem dX1_init_13 : decode cX1_init 13 = .ok (.bipush 9, 2) := by decide +kernel
theorem dX1_init_15 : decode cX1_init 15 = .ok (.newarray .int, 2) := by decide +kernel
theorem dX1_init_17 : decode cX1_init 17 = .ok (.putfield 15, 3) := by decide +kernel
theorem dX1_init_20 : decode cX1_init 20 = .ok (.aload_n 0, 1) := by decide +kernel
theorem dX1_init_21 : decode cX1_init 21 = .ok (.bipush 9, 2) := by decide +kernel
theorem dX1_init_23 : decode cX1_init 23 = .ok (.newarray .int, 2) := by decide +kernel
theorem dX1_init_25 : decode cX1_init 25 = .ok (.putfield 18, 3) := by decide +kernel
theorem dX1_init_28 : decode cX1_init 28 = .ok (.aload_n 0, 1) := by decide +kernel
theorem dX1_init_29 : decode cX1_init 29 = .ok (.bipush 9, 2) := by decide +kernel
theorem dX1_init_31 : decode cX1_init 31 = .ok (.newarray .int, 2) := by decide +kernel
theorem dX1_init_33 : decode cX1_init 33 = .ok (.putfield 21, 3) := by decide +kernel
theorem dX1_init_36 : decode cX1_init 36 = .ok (.aload_n 0, 1) := by decide +kernel
theorem dX1_init_37 : decode cX1_init 37 = .ok (.bipush 6, 2) := by decide +kernel
theorem dX1_init_39 : decode cX1_init 39 = .ok (.newarray .int, 2) := by decide +kernel
theorem dX1_init_41 : decode cX1_init 41 = .ok (.putfield 24, 3) := by decide +kernel
theorem dX1_init_44 : decode cX1_init 44 = .ok (.aload_n 0, 1) := by decide +kernel
theorem dX1_init_45 : decode cX1_init 45 = .ok (.bipush 6, 2) := by decide +kernel
theorem dX1_init_47 : decode cX1_init 47 = .ok (.newarray .int, 2) := by decide +kernel
theorem dX1_init_49 : decode cX1_init 49 = .ok (.putfield 27, 3) := by decide +kernel
theorem dX1_init_52 : decode cX1_init 52 = .ok (.aload_n 0, 1) := by decide +kernel
theorem dX1_init_53 : decode cX1_init 53 = .ok (.bipush 6, 2) := by decide +kernel
theorem dX1_init_55 : decode cX1_init 55 = .ok (.newarray .int, 2) := by decide +kernel
theorem dX1_init_57 : decode cX1_init 57 = .ok (.putfield 30, 3) := by decide +kernel
theorem dX1_init_60 : decode cX1_init 60 = .ok (.aload_n 0, 1) := by decide +kernel
theorem dX1_init_61 : decode cX1_init 61 = .ok (.bipush 6, 2) := by decide +kernel
theorem dX1_init_63 : decode cX1_init 63 = .ok (.newarray .int, 2) := by decide +kernel
theorem dX1_init_65 : decode cX1_init 65 = .ok (.putfield 33, 3) := by decide +kernel
theorem dX1_init_68 : decode cX1_init 68 = .ok (.aload_n 0, 1) := by decide +kernel
theorem dX1_init_69 : decode cX1_init 69 = .ok (.bipush 6, 2) := by decide +kernel
theorem dX1_init_71 : decode cX1_init 71 = .ok (.newarray .int, 2) := by decide +kernel
theorem dX1_init_73 : decode cX1_init 73 = .ok (.putfield 36, 3) := by decide +kernel
theorem dX1_init_76 : decode cX1_init 76 = .ok (.return_, 1) := by decide +kernel
theorem dX1_clear_0 : decode cX1_clear 0 = .ok (.aload_n 0, 1) := by decide +kernel
theorem dX1_clear_1 : decode cX1_clear 1 = .ok (.iconst 0, 1) := by decide +kernel
theorem dX1_clear_2 : decode cX1_clear 2 = .ok (.putfield 39, 3) := by decide +kernel
theorem dX1_clear_5 : decode cX1_clear 5 = .ok (.aload_n 0, 1) := by decide +kernel
theorem dX1_clear_6 : decode cX1_clear 6 = .ok (.iconst 0, 1) := by decide +kernel
theorem dX1_clear_7 : decode cX1_clear 7 = .ok (.putfield 43, 3) := by decide +kernel
theorem dX1_clear_10 : decode cX1_clear 10 = .ok (.aload_n 0, 1) := by decide +kernel
theorem dX1_clear_11 : decode cX1_clear 11 = .ok (.iconst 0, 1) := by decide +kernel
theorem dX1_clear_12 : decode cX1_clear 12 = .ok (.putfield 46, 3) := by decide +kernel
theorem dX1_clear_15 : decode cX1_clear 15 = .ok (.aload_n 0, 1) := by decide +kernel
theorem dX1_clear_16 : decode cX1_clear 16 = .ok (.iconst 0, 1) := by decide +kernel
theorem dX1_clear_17 : decode cX1_clear 17 = .ok (.putfield 49, 3) := by decide +kernel
theorem dX1_clear_20 : decode cX1_clear 20 = .ok (.aload_n 0, 1) := by decide +kernel
theorem dX1_clear_21 : decode cX1_clear 21 = .ok (.iconst 0, 1) := by decide +kernel
theorem dX1_clear_22 : decode cX1_clear 22 = .ok (.putfield 52, 3) := by decide +kernel
theorem dX1_clear_25 : decode cX1_clear 25 = .ok (.return_, 1) := by decide +kernel
theorem dX1_become_0 : decode cX1_become 0 = .ok (.aload_n 0, 1) := by decide +kernel
theorem dX1_become_1 : decode cX1_become 1 = .ok (.aload_n 1, 1) := by decide +kernel
theorem dX1_become_2 : decode cX1_become 2 = .ok (.getfield 39, 3) := by decide +kernel
theorem dX1_become_5 : decode cX1_become 5 = .ok (.putfield 39, 3) := by decide +kernel
theorem dX1_become_8 : decode cX1_become 8 = .ok (.aload_n 1, 1) := by decide +kernel
theorem dX1_become_9 : decode cX1_become 9 = .ok (.getfield 9, 3) := by decide +kernel
theorem dX1_become_12 : decode cX1_become 12 = .ok (.iconst 0, 1) := by decide +kernel
theorem dX1_become_13 : decode cX1_become 13 = .ok (.aload_n 0, 1) := by decide +kernel
theorem dX1_become_14 : decode cX1_become 14 = .ok (.getfield 9, 3) := by decide +kernel
theorem dX1_become_17 : decode cX1_become 17 = .ok (.iconst 0, 1) := by decide +kernel
theorem dX1_become_18 : decode cX1_become 18 = .ok (.bipush 6, 2) := by decide +kernel
theorem dX1_become_20 : decode cX1_become 20 = .ok (.invokestatic 55, 3) := by decide +kernel
theorem dX1_become_23 : decode cX1_become 23 = .ok (.aload_n 0, 1) := by decide +kernel
theorem dX1_become_24 : decode cX1_become 24 = .ok (.aload_n 1, 1) := by decide +kernel
theorem dX1_become_25 : decode cX1_become 25 = .ok (.getfield 43, 3) := by decide +kernel
theorem dX1_become_28 : decode cX1_become 28 = .ok (.putfield 43, 3) := by decide +kernel
theorem dX1_become_31 : decode cX1_become 31 = .ok (.aload_n 1, 1) := by decide +kernel
theorem dX1_become_32 : decode cX1_become 32 = .ok (.getfield 15, 3) := by decide +kernel
theorem dX1_become_35 : decode cX1_become 35 = .ok (.iconst 0, 1) := by decide +kernel
theorem dX1_become_36 : decode cX1_become 36 = .ok (.aload_n 0, 1) := by decide +kernel
theorem dX1_become_37 : decode cX1_become 37 = .ok (.getfield 15, 3) := by decide +kernel
theorem dX1_become_40 : decode cX1_become 40 = .ok (.iconst 0, 1) := by decide +kernel
theorem dX1_become_41 : decode cX1_become 41 = .ok (.bipush 9, 2) := by decide +kernel
theorem dX1_become_43 : decode cX1_become 43 = .ok (.invokestatic 55, 3) := by decide +kernel
theorem dX1_become_46 : decode cX1_become 46 = .ok (.aload_n 1, 1) := by decide +kernel
theorem dX1_become_47 : decode cX1_become 47 = .ok (.getfield 18, 3) := by decide +kernel
theorem dX1_become_50 : decode cX1_become 50 = .ok (.iconst 0, 1) := by decide +kernel
theorem dX1_become_51 : decode cX1_become 51 = .ok (.aload_n 0, 1) := by decide +kernel
theorem dX1_become_52 : decode cX1_become 52 = .ok (.getfield 18, 3) := by decide +kernel
theorem dX1_become_55 : decode cX1_become 55 = .ok (.iconst 0, 1) := by decide +kernel
theorem dX1_become_56 : decode cX1_become 56 = .ok (.bipush 9, 2) := by decide +kernel
theorem dX1_become_58 : decode cX1_become 58 = .ok (.invokestatic 55, 3) := by decide +kernel
theorem dX1_become_61 : decode cX1_become 61 = .ok (.aload_n 1, 1) := by decide +kernel
theorem dX1_become_62 : decode cX1_become 62 = .ok (.getfield 21, 3) := by decide +kernel
theorem dX1_become_65 : decode cX1_become 65 = .ok (.iconst 0, 1) := by decide +kernel
theorem dX1_become_66 : decode cX1_become 66 = .ok (.aload_n 0, 1) := by decide +kernel
theorem dX1_become_67 : decode cX1_become 67 = .ok (.getfield 21, 3) := by decide +kernel
theorem dX1_become_70 : decode cX1_become 70 = .ok (.iconst 0, 1) := by decide +kernel
theorem dX1_become_71 : decode cX1_become 71 = .ok (.bipush 9, 2) := by decide +kernel
theorem dX1_become_73 : decode cX1_become 73 = .ok (.invokestatic 55, 3) := by decide +kernel
theorem dX1_become_76 : decode cX1_become 76 = .ok (.aload_n 0, 1) := by decide +kernel
theorem dX1_become_77 : decode cX1_become 77 = .ok (.aload_n 1, 1) := by decide +kernel
theorem dX1_become_78 : decode cX1_become 78 = .ok (.getfield 46, 3) := by decide +kernel
theorem dX1_become_81 : decode cX1_become 81 = .ok (.putfield 46, 3) := by decide +kernel
theorem dX1_become_84 : decode cX1_become 84 = .ok (.aload_n 0, 1) := by decide +kernel
theorem dX1_become_85 : decode cX1_become 85 = .ok (.aload_n 1, 1) := by decide +kernel
theorem dX1_become_86 : decode cX1_become 86 = .ok (.getfield 49, 3) := by decide +kernel
theorem dX1_become_89 : decode cX1_become 89 = .ok (.putfield 49, 3) := by decide +kernel
theorem dX1_become_92 : decode cX1_become 92 = .ok (.aload_n 0, 1) := by decide +kernel
theorem dX1_become_93 : decode cX1_become 93 = .ok (.aload_n 1, 1) := by decide +kernel
theorem dX1_become_94 : decode cX1_become 94 = .ok (.getfield 52, 3) := by decide +kernel
theorem dX1_become_97 : decode cX1_become 97 = .ok (.putfield 52, 3) := by decide +kernel
theorem dX1_become_100 : decode cX1_become 100 = .ok (.aload_n 1, 1) := by decide +kernel
theorem dX1_become_101 : decode cX1_become 101 = .ok (.getfield 24, 3) := by decide +kernel
theorem dX1_become_104 : decode cX1_become 104 = .ok (.iconst 0, 1) := by decide +kernel
theorem dX1_become_105 : decode cX1_become 105 = .ok (.aload_n 0, 1) := by decide +kernel
theorem dX1_become_106 : decode cX1_become 106 = .ok (.getfield 24, 3) := by decide +kernel
theorem dX1_become_109 : decode cX1_become 109 = .ok (.iconst 0, 1) := by decide +kernel
theorem dX1_become_110 : decode cX1_become 110 = .ok (.bipush 6, 2) := by decide +kernel
theorem dX1_become_112 : decode cX1_become 112 = .ok (.invokestatic 55, 3) := by decide +kernel
theorem dX1_become_115 : decode cX1_become 115 = .ok (.aload_n 1, 1) := by decide +kernel
theorem dX1_become_116 : decode cX1_become 116 = .ok (.getfield 27, 3) := by decide +kernel
theorem dX1_become_119 : decode cX1_become 119 = .ok (.iconst 0, 1) := by decide +kernel
theorem dX1_become_120 : decode cX1_become 120 = .ok (.aload_n 0, 1) := by decide +kernel
theorem dX1_become_121 : decode cX1_become 121 = .ok (.getfield 27, 3) := by decide +kernel
theorem dX1_become_124 : decode cX1_become 124 = .ok (.iconst 0, 1) := by decide +kernel
theorem dX1_become_125 : decode cX1_become 125 = .ok (.bipush 6, 2) := by decide +kernel
theorem dX1_become_127 : decode cX1_become 127 = .ok (.invokestatic 55, 3) := by decide +kernel
theorem dX1_become_130 : decode cX1_become 130 = .ok (.aload_n 1, 1) := by decide +kernel
theorem dX1_become_131 : decode cX1_become 131 = .ok (.getfield 30, 3) := by decide +kernel
theorem dX1_become_134 : decode cX1_become 134 = .ok (.iconst 0, 1) := by decide +kernel
theorem dX1_become_135 : decode cX1_become 135 = .ok (.aload_n 0, 1) := by decide +kernel
theorem dX1_become_136 : decode cX1_become 136 = .ok (.getfield 30, 3) := by decide +kernel
theorem dX1_become_139 : decode cX1_become 139 = .ok (.iconst 0, 1) := by decide +kernel
theorem dX1_become_140 : decode cX1_become 140 = .ok (.bipush 6, 2) := by decide +kernel
theorem dX1_become_142 : decode cX1_become 142 = .ok (.invokestatic 55, 3) := by decide +kernel
theorem dX1_become_145 : decode cX1_become 145 = .ok (.return_, 1) := by decide +kernel
theorem dX1_addTree_0 : decode cX1_addTree 0 = .ok (.aload_n 0, 1) := by decide +kernel
theorem dX1_addTree_1 : decode cX1_addTree 1 = .ok (.getfield 39, 3) := by decide +kernel
theorem dX1_addTree_4 : decode cX1_addTree 4 = .ok (.bipush 6, 2) := by decide +kernel
theorem dX1_addTree_6 : decode cX1_addTree 6 = .ok (.if_icmp .lt 6, 3) := by decide +kernel
theorem dX1_addTree_9 : decode cX1_addTree 9 = .ok (.bipush (-3), 2) := by decide +kernel
theorem dX1_addTree_11 : decode cX1_addTree 11 = .ok (.ireturn, 1) := by decide +kernel
theorem dX1_addTree_12 : decode cX1_addTree 12 = .ok (.aload_n 0, 1) := by decide +kernel
theorem dX1_addTree_13 : decode cX1_addTree 13 = .ok (.getfield 9, 3) := by decide +kernel
theorem dX1_addTree_16 : decode cX1_addTree 16 = .ok (.aload_n 0, 1) := by decide +kernel
theorem dX1_addTree_17 : decode cX1_addTree 17 = .ok (.getfield 39, 3) := by decide +kernel
theorem dX1_addTree_20 : decode cX1_addTree 20 = .ok (.iload_n 1, 1) := by decide +kernel
theorem dX1_addTree_21 : decode cX1_addTree 21 = .ok (.iastore, 1) := by decide +kernel
theorem dX1_addTree_22 : decode cX1_addTree 22 = .ok (.aload_n 0, 1) := by decide +kernel
theorem dX1_addTree_23 : decode cX1_addTree 23 = .ok (.dup, 1) := by decide +kernel
theorem dX1_addTree_24 : decode cX1_addTree 24 = .ok (.getfield 39, 3) := by decide +kernel
theorem dX1_addTree_27 : decode cX1_addTree 27 = .ok (.iconst 1, 1) := by decide +kernel
theorem dX1_addTree_28 : decode cX1_addTree 28 = .ok (.iadd, 1) := by decide +kernel
theorem dX1_addTree_29 : decode cX1_addTree 29 = .ok (.putfield 39, 3) := by decide +kernel
theorem dX1_addTree_32 : decode cX1_addTree 32 = .ok (.aload_n 0, 1) := by decide +kernel
theorem dX1_addTree_33 : decode cX1_addTree 33 = .ok (.getfield 39, 3) := by decide +kernel
theorem dX1_addTree_36 : decode cX1_addTree 36 = .ok (.ireturn, 1) := by decide +kernel
theorem dX1_addRoot_0 : decode cX1_addRoot 0 = .ok (.aload_n 0, 1) := by decide +kernel
theorem dX1_addRoot_1 : decode cX1_addRoot 1 = .ok (.getfield 43, 3) := by decide +kernel
theorem dX1_addRoot_4 : decode cX1_addRoot 4 = .ok (.bipush 9, 2) := by decide +kernel
theorem dX1_addRoot_6 : decode cX1_addRoot 6 = .ok (.if_icmp .lt 6, 3) := by decide +kernel
theorem dX1_addRoot_9 : decode cX1_addRoot 9 = .ok (.bipush (-3), 2) := by decide +kernel
theorem dX1_addRoot_11 : decode cX1_addRoot 11 = .ok (.ireturn, 1) := by decide +kernel
theorem dX1_addRoot_12 : decode cX1_addRoot 12 = .ok (.aload_n 0, 1) := by decide +kernel
theorem dX1_addRoot_13 : decode cX1_addRoot 13 = .ok (.getfield 15, 3) := by decide +kernel
theorem dX1_addRoot_16 : decode cX1_addRoot 16 = .ok (.aload_n 0, 1) := by decide +kernel
theorem dX1_addRoot_17 : decode cX1_addRoot 17 = .ok (.getfield 43, 3) := by decide +kernel
theorem dX1_addRoot_20 : decode cX1_addRoot 20 = .ok (.iload_n 1, 1) := by decide +kernel
theorem dX1_addRoot_21 : decode cX1_addRoot 21 = .ok (.iastore, 1) := by decide +kernel
theorem dX1_addRoot_22 : decode cX1_addRoot 22 = .ok (.aload_n 0, 1) := by decide +kernel
theorem dX1_addRoot_23 : decode cX1_addRoot 23 = .ok (.getfield 18, 3) := by decide +kernel
theorem dX1_addRoot_26 : decode cX1_addRoot 26 = .ok (.aload_n 0, 1) := by decide +kernel
theorem dX1_addRoot_27 : decode cX1_addRoot 27 = .ok (.getfield 43, 3) := by decide +kernel
theorem dX1_addRoot_30 : decode cX1_addRoot 30 = .ok (.iload_n 2, 1) := by decide +kernel
theorem dX1_addRoot_31 : decode cX1_addRoot 31 = .ok (.iastore, 1) := by decide +kernel
theorem dX1_addRoot_32 : decode cX1_addRoot 32 = .ok (.aload_n 0, 1) := by decide +kernel
theorem dX1_addRoot_33 : decode cX1_addRoot 33 = .ok (.getfield 21, 3) := by decide +kernel
theorem dX1_addRoot_36 : decode cX1_addRoot 36 = .ok (.aload_n 0, 1) := by decide +kernel
theorem dX1_addRoot_37 : decode cX1_addRoot 37 = .ok (.getfield 43, 3) := by decide +kernel
theorem dX1_addRoot_40 : decode cX1_addRoot 40 = .ok (.iload_n 3, 1) := by decide +kernel
theorem dX1_addRoot_41 : decode cX1_addRoot 41 = .ok (.iastore, 1) := by decide +kernel
theorem dX1_addRoot_42 : decode cX1_addRoot 42 = .ok (.aload_n 0, 1) := by decide +kernel
theorem dX1_addRoot_43 : decode cX1_addRoot 43 = .ok (.dup, 1) := by decide +kernel
theorem dX1_addRoot_44 : decode cX1_addRoot 44 = .ok (.getfield 43, 3) := by decide +kernel
theorem dX1_addRoot_47 : decode cX1_addRoot 47 = .ok (.iconst 1, 1) := by decide +kernel
theorem dX1_addRoot_48 : decode cX1_addRoot 48 = .ok (.iadd, 1) := by decide +kernel
theorem dX1_addRoot_49 : decode cX1_addRoot 49 = .ok (.putfield 43, 3) := by decide +kernel
theorem dX1_addRoot_52 : decode cX1_addRoot 52 = .ok (.aload_n 0, 1) := by decide +kernel
theorem dX1_addRoot_53 : decode cX1_addRoot 53 = .ok (.getfield 43, 3) := by decide +kernel
theorem dX1_addRoot_56 : decode cX1_addRoot 56 = .ok (.ireturn, 1) := by decide +kernel
theorem dX1_addTalk_0 : decode cX1_addTalk 0 = .ok (.aload_n 0, 1) := by decide +kernel
theorem dX1_addTalk_1 : decode cX1_addTalk 1 = .ok (.getfield 52, 3) := by decide +kernel
theorem dX1_addTalk_4 : decode cX1_addTalk 4 = .ok (.bipush 6, 2) := by decide +kernel
theorem dX1_addTalk_6 : decode cX1_addTalk 6 = .ok (.if_icmp .lt 6, 3) := by decide +kernel
theorem dX1_addTalk_9 : decode cX1_addTalk 9 = .ok (.bipush (-3), 2) := by decide +kernel
theorem dX1_addTalk_11 : decode cX1_addTalk 11 = .ok (.ireturn, 1) := by decide +kernel
theorem dX1_addTalk_12 : decode cX1_addTalk 12 = .ok (.aload_n 0, 1) := by decide +kernel
theorem dX1_addTalk_13 : decode cX1_addTalk 13 = .ok (.getfield 24, 3) := by decide +kernel
theorem dX1_addTalk_16 : decode cX1_addTalk 16 = .ok (.aload_n 0, 1) := by decide +kernel
theorem dX1_addTalk_17 : decode cX1_addTalk 17 = .ok (.getfield 52, 3) := by decide +kernel
theorem dX1_addTalk_20 : decode cX1_addTalk 20 = .ok (.iload_n 1, 1) := by decide +kernel
theorem dX1_addTalk_21 : decode cX1_addTalk 21 = .ok (.iastore, 1) := by decide +kernel
theorem dX1_addTalk_22 : decode cX1_addTalk 22 = .ok (.aload_n 0, 1) := by decide +kernel
theorem dX1_addTalk_23 : decode cX1_addTalk 23 = .ok (.getfield 27, 3) := by decide +kernel
theorem dX1_addTalk_26 : decode cX1_addTalk 26 = .ok (.aload_n 0, 1) := by decide +kernel
theorem dX1_addTalk_27 : decode cX1_addTalk 27 = .ok (.getfield 52, 3) := by decide +kernel
theorem dX1_addTalk_30 : decode cX1_addTalk 30 = .ok (.iload_n 2, 1) := by decide +kernel
theorem dX1_addTalk_31 : decode cX1_addTalk 31 = .ok (.iastore, 1) := by decide +kernel
theorem dX1_addTalk_32 : decode cX1_addTalk 32 = .ok (.aload_n 0, 1) := by decide +kernel
theorem dX1_addTalk_33 : decode cX1_addTalk 33 = .ok (.getfield 30, 3) := by decide +kernel
theorem dX1_addTalk_36 : decode cX1_addTalk 36 = .ok (.aload_n 0, 1) := by decide +kernel
theorem dX1_addTalk_37 : decode cX1_addTalk 37 = .ok (.getfield 52, 3) := by decide +kernel
theorem dX1_addTalk_40 : decode cX1_addTalk 40 = .ok (.iload_n 3, 1) := by decide +kernel
theorem dX1_addTalk_41 : decode cX1_addTalk 41 = .ok (.iastore, 1) := by decide +kernel
theorem dX1_addTalk_42 : decode cX1_addTalk 42 = .ok (.aload_n 0, 1) := by decide +kernel
theorem dX1_addTalk_43 : decode cX1_addTalk 43 = .ok (.dup, 1) := by decide +kernel
theorem dX1_addTalk_44 : decode cX1_addTalk 44 = .ok (.getfield 52, 3) := by decide +kernel
theorem dX1_addTalk_47 : decode cX1_addTalk 47 = .ok (.iconst 1, 1) := by decide +kernel
theorem dX1_addTalk_48 : decode cX1_addTalk 48 = .ok (.iadd, 1) := by decide +kernel
theorem dX1_addTalk_49 : decode cX1_addTalk 49 = .ok (.putfield 52, 3) := by decide +kernel
theorem dX1_addTalk_52 : decode cX1_addTalk 52 = .ok (.aload_n 0, 1) := by decide +kernel
theorem dX1_addTalk_53 : decode cX1_addTalk 53 = .ok (.getfield 52, 3) := by decide +kernel
theorem dX1_addTalk_56 : decode cX1_addTalk 56 = .ok (.ireturn, 1) := by decide +kernel
theorem dX1_keepFirstTalks_0 : decode cX1_keepFirstTalks 0 = .ok (.aload_n 0, 1) := by decide +kernel
theorem dX1_keepFirstTalks_1 : decode cX1_keepFirstTalks 1 = .ok (.getfield 52, 3) := by decide +kernel
theorem dX1_keepFirstTalks_4 : decode cX1_keepFirstTalks 4 = .ok (.istore_n 2, 1) := by decide +kernel
theorem dX1_keepFirstTalks_5 : decode cX1_keepFirstTalks 5 = .ok (.aload_n 0, 1) := by decide +kernel
theorem dX1_keepFirstTalks_6 : decode cX1_keepFirstTalks 6 = .ok (.iload_n 1, 1) := by decide +kernel
theorem dX1_keepFirstTalks_7 : decode cX1_keepFirstTalks 7 = .ok (.putfield 52, 3) := by decide +kernel
theorem dX1_keepFirstTalks_10 : decode cX1_keepFirstTalks 10 = .ok (.iload_n 2, 1) := by decide +kernel
theorem dX1_keepFirstTalks_11 : decode cX1_keepFirstTalks 11 = .ok (.ireturn, 1) := by decide +kernel
theorem dX1_hasTree_0 : decode cX1_hasTree 0 = .ok (.iload_n 1, 1) := by decide +kernel
theorem dX1_hasTree_1 : decode cX1_hasTree 1 = .ok (.iconst 0, 1) := by decide +kernel
theorem dX1_hasTree_2 : decode cX1_hasTree 2 = .ok (.aload_n 0, 1) := by decide +kernel
theorem dX1_hasTree_3 : decode cX1_hasTree 3 = .ok (.getfield 39, 3) := by decide +kernel
theorem dX1_hasTree_6 : decode cX1_hasTree 6 = .ok (.iconst 1, 1) := by decide +kernel
theorem dX1_hasTree_7 : decode cX1_hasTree 7 = .ok (.isub, 1) := by decide +kernel
theorem dX1_hasTree_8 : decode cX1_hasTree 8 = .ok (.invokestatic 61, 3) := by decide +kernel
theorem dX1_hasTree_11 : decode cX1_hasTree 11 = .ok (.ireturn, 1) := by decide +kernel
theorem dX1_hasTrees_0 : decode cX1_hasTrees 0 = .ok (.iload_n 1, 1) := by decide +kernel
theorem dX1_hasTrees_1 : decode cX1_hasTrees 1 = .ok (.iconst 0, 1) := by decide +kernel
theorem dX1_hasTrees_2 : decode cX1_hasTrees 2 = .ok (.aload_n 0, 1) := by decide +kernel
theorem dX1_hasTrees_3 : decode cX1_hasTrees 3 = .ok (.invokevirtual 65, 3) := by decide +kernel
theorem dX1_hasTrees_6 : decode cX1_hasTrees 6 = .ok (.invokestatic 61, 3) := by decide +kernel
theorem dX1_hasTrees_9 : decode cX1_hasTrees 9 = .ok (.ireturn, 1) := by decide +kernel
theorem dX1_hasRoot_0 : decode cX1_hasRoot 0 = .ok (.iload_n 1, 1) := by decide +kernel
theorem dX1_hasRoot_1 : decode cX1_hasRoot 1 = .ok (.iconst 0, 1) := by decide +kernel
theorem dX1_hasRoot_2 : decode cX1_hasRoot 2 = .ok (.aload_n 0, 1) := by decide +kernel
theorem dX1_hasRoot_3 : decode cX1_hasRoot 3 = .ok (.getfield 43, 3) := by decide +kernel
theorem dX1_hasRoot_6 : decode cX1_hasRoot 6 = .ok (.iconst 1, 1) := by decide +kernel
theorem dX1_hasRoot_7 : decode cX1_hasRoot 7 = .ok (.isub, 1) := by decide +kernel
theorem dX1_hasRoot_8 : decode cX1_hasRoot 8 = .ok (.invokestatic 61, 3) := by decide +kernel
theorem dX1_hasRoot_11 : decode cX1_hasRoot 11 = .ok (.ireturn, 1) := by decide +kernel
theorem dX1_hasTalk_0 : decode cX1_hasTalk 0 = .ok (.iload_n 1, 1) := by decide +kernel
theorem dX1_hasTalk_1 : decode cX1_hasTalk 1 = .ok (.iconst 0, 1) := by decide +kernel
theorem dX1_hasTalk_2 : decode cX1_hasTalk 2 = .ok (.aload_n 0, 1) := by decide +kernel
theorem dX1_hasTalk_3 : decode cX1_hasTalk 3 = .ok (.getfield 52, 3) := by decide +kernel
theorem dX1_hasTalk_6 : decode cX1_hasTalk 6 = .ok (.iconst 1, 1) := by decide +kernel
theorem dX1_hasTalk_7 : decode cX1_hasTalk 7 = .ok (.isub, 1) := by decide +kernel
theorem dX1_hasTalk_8 : decode cX1_hasTalk 8 = .ok (.invokestatic 61, 3) := by decide +kernel
theorem dX1_hasTalk_11 : decode cX1_hasTalk 11 = .ok (.ireturn, 1) := by decide +kernel
theorem dX1_allTrees_0 : decode cX1_allTrees 0 = .ok (.iconst 1, 1) := by decide +kernel
theorem dX1_allTrees_1 : decode cX1_allTrees 1 = .ok (.aload_n 0, 1) := by decide +kernel
theorem dX1_allTrees_2 : decode cX1_allTrees 2 = .ok (.getfield 39, 3) := by decide +kernel
theorem dX1_allTrees_5 : decode cX1_allTrees 5 = .ok (.ishl, 1) := by decide +kernel
theorem dX1_allTrees_6 : decode cX1_allTrees 6 = .ok (.iconst 1, 1) := by decide +kernel
theorem dX1_allTrees_7 : decode cX1_allTrees 7 = .ok (.isub, 1) := by decide +kernel
theorem dX1_allTrees_8 : decode cX1_allTrees 8 = .ok (.ireturn, 1) := by decide +kernel
theorem dX1_isWhole_0 : decode cX1_isWhole 0 = .ok (.aload_n 0, 1) := by decide +kernel
theorem dX1_isWhole_1 : decode cX1_isWhole 1 = .ok (.getfield 46, 3) := by decide +kernel
theorem dX1_isWhole_4 : decode cX1_isWhole 4 = .ok (.iconst 1, 1) := by decide +kernel
theorem dX1_isWhole_5 : decode cX1_isWhole 5 = .ok (.iload_n 1, 1) := by decide +kernel
theorem dX1_isWhole_6 : decode cX1_isWhole 6 = .ok (.ishl, 1) := by decide +kernel
theorem dX1_isWhole_7 : decode cX1_isWhole 7 = .ok (.iand, 1) := by decide +kernel
theorem dX1_isWhole_8 : decode cX1_isWhole 8 = .ok (.ifCond .ne 7, 3) := by decide +kernel
theorem dX1_isWhole_11 : decode cX1_isWhole 11 = .ok (.iconst 1, 1) := by decide +kernel
theorem dX1_isWhole_12 : decode cX1_isWhole 12 = .ok (.goto 4, 3) := by decide +kernel
theorem dX1_isWhole_15 : decode cX1_isWhole 15 = .ok (.iconst 0, 1) := by decide +kernel
theorem dX1_isWhole_16 : decode cX1_isWhole 16 = .ok (.ireturn, 1) := by decide +kernel
theorem dX1_lacksTree_0 : decode cX1_lacksTree 0 = .ok (.iconst 0, 1) := by decide +kernel
theorem dX1_lacksTree_1 : decode cX1_lacksTree 1 = .ok (.istore_n 1, 1) := by decide +kernel
theorem dX1_lacksTree_2 : decode cX1_lacksTree 2 = .ok (.iconst 0, 1) := by decide +kernel
theorem dX1_lacksTree_3 : decode cX1_lacksTree 3 = .ok (.istore_n 2, 1) := by decide +kernel
theorem dX1_lacksTree_4 : decode cX1_lacksTree 4 = .ok (.iload_n 2, 1) := by decide +kernel
theorem dX1_lacksTree_5 : decode cX1_lacksTree 5 = .ok (.aload_n 0, 1) := by decide +kernel
theorem dX1_lacksTree_6 : decode cX1_lacksTree 6 = .ok (.getfield 43, 3) := by decide +kernel
theorem dX1_lacksTree_9 : decode cX1_lacksTree 9 = .ok (.if_icmp .ge 43, 3) := by decide +kernel
theorem dX1_lacksTree_12 : decode cX1_lacksTree 12 = .ok (.iload_n 1, 1) := by decide +kernel
theorem dX1_lacksTree_13 : decode cX1_lacksTree 13 = .ok (.aload_n 0, 1) := by decide +kernel
theorem dX1_lacksTree_14 : decode cX1_lacksTree 14 = .ok (.aload_n 0, 1) := by decide +kernel
theorem dX1_lacksTree_15 : decode cX1_lacksTree 15 = .ok (.getfield 15, 3) := by decide +kernel
theorem dX1_lacksTree_18 : decode cX1_lacksTree 18 = .ok (.iload_n 2, 1) := by decide +kernel
theorem dX1_lacksTree_19 : decode cX1_lacksTree 19 = .ok (.iaload, 1) := by decide +kernel
theorem dX1_lacksTree_20 : decode cX1_lacksTree 20 = .ok (.invokevirtual 69, 3) := by decide +kernel
theorem dX1_lacksTree_23 : decode cX1_lacksTree 23 = .ok (.ifCond .eq 16, 3) := by decide +kernel
theorem dX1_lacksTree_26 : decode cX1_lacksTree 26 = .ok (.aload_n 0, 1) := by decide +kernel
theorem dX1_lacksTree_27 : decode cX1_lacksTree 27 = .ok (.aload_n 0, 1) := by decide +kernel
theorem dX1_lacksTree_28 : decode cX1_lacksTree 28 = .ok (.getfield 18, 3) := by decide +kernel
theorem dX1_lacksTree_31 : decode cX1_lacksTree 31 = .ok (.iload_n 2, 1) := by decide +kernel
theorem dX1_lacksTree_32 : decode cX1_lacksTree 32 = .ok (.iaload, 1) := by decide +kernel
theorem dX1_lacksTree_33 : decode cX1_lacksTree 33 = .ok (.invokevirtual 69, 3) := by decide +kernel
theorem dX1_lacksTree_36 : decode cX1_lacksTree 36 = .ok (.ifCond .ne 7, 3) := by decide +kernel
theorem dX1_lacksTree_39 : decode cX1_lacksTree 39 = .ok (.iconst 1, 1) := by decide +kernel
theorem dX1_lacksTree_40 : decode cX1_lacksTree 40 = .ok (.goto 4, 3) := by decide +kernel
theorem dX1_lacksTree_43 : decode cX1_lacksTree 43 = .ok (.iconst 0, 1) := by decide +kernel
theorem dX1_lacksTree_44 : decode cX1_lacksTree 44 = .ok (.ior, 1) := by decide +kernel
theorem dX1_lacksTree_45 : decode cX1_lacksTree 45 = .ok (.istore_n 1, 1) := by decide +kernel
theorem dX1_lacksTree_46 : decode cX1_lacksTree 46 = .ok (.iinc 2 1, 3) := by decide +kernel
theorem dX1_lacksTree_49 : decode cX1_lacksTree 49 = .ok (.goto (-45), 3) := by decide +kernel
theorem dX1_lacksTree_52 : decode cX1_lacksTree 52 = .ok (.iconst 0, 1) := by decide +kernel
theorem dX1_lacksTree_53 : decode cX1_lacksTree 53 = .ok (.istore_n 2, 1) := by decide +kernel
theorem dX1_lacksTree_54 : decode cX1_lacksTree 54 = .ok (.iload_n 2, 1) := by decide +kernel
theorem dX1_lacksTree_55 : decode cX1_lacksTree 55 = .ok (.aload_n 0, 1) := by decide +kernel
theorem dX1_lacksTree_56 : decode cX1_lacksTree 56 = .ok (.getfield 52, 3) := by decide +kernel
theorem dX1_lacksTree_59 : decode cX1_lacksTree 59 = .ok (.if_icmp .ge 30, 3) := by decide +kernel
theorem dX1_lacksTree_62 : decode cX1_lacksTree 62 = .ok (.iload_n 1, 1) := by decide +kernel
theorem dX1_lacksTree_63 : decode cX1_lacksTree 63 = .ok (.aload_n 0, 1) := by decide +kernel
theorem dX1_lacksTree_64 : decode cX1_lacksTree 64 = .ok (.aload_n 0, 1) := by decide +kernel
theorem dX1_lacksTree_65 : decode cX1_lacksTree 65 = .ok (.getfield 27, 3) := by decide +kernel
theorem dX1_lacksTree_68 : decode cX1_lacksTree 68 = .ok (.iload_n 2, 1) := by decide +kernel
theorem dX1_lacksTree_69 : decode cX1_lacksTree 69 = .ok (.iaload, 1) := by decide +kernel
theorem dX1_lacksTree_70 : decode cX1_lacksTree 70 = .ok (.invokevirtual 69, 3) := by decide +kernel
theorem dX1_lacksTree_73 : decode cX1_lacksTree 73 = .ok (.ifCond .ne 7, 3) := by decide +kernel
theorem dX1_lacksTree_76 : decode cX1_lacksTree 76 = .ok (.iconst 1, 1) := by decide +kernel
theorem dX1_lacksTree_77 : decode cX1_lacksTree 77 = .ok (.goto 4, 3) := by decide +kernel
theorem dX1_lacksTree_80 : decode cX1_lacksTree 80 = .ok (.iconst 0, 1) := by decide +kernel
theorem dX1_lacksTree_81 : decode cX1_lacksTree 81 = .ok (.ior, 1) := by decide +kernel
theorem dX1_lacksTree_82 : decode cX1_lacksTree 82 = .ok (.istore_n 1, 1) := by decide +kernel
theorem dX1_lacksTree_83 : decode cX1_lacksTree 83 = .ok (.iinc 2 1, 3) := by decide +kernel
theorem dX1_lacksTree_86 : decode cX1_lacksTree 86 = .ok (.goto (-32), 3) := by decide +kernel
theorem dX1_lacksTree_89 : decode cX1_lacksTree 89 = .ok (.iload_n 1, 1) := by decide +kernel
theorem dX1_lacksTree_90 : decode cX1_lacksTree 90 = .ok (.ireturn, 1) := by decide +kernel
theorem dX1_wholeRootsOf_0 : decode cX1_wholeRootsOf 0 = .ok (.iconst 0, 1) := by decide +kernel
theorem dX1_wholeRootsOf_1 : decode cX1_wholeRootsOf 1 = .ok (.istore_n 2, 1) := by decide +kernel
theorem dX1_wholeRootsOf_2 : decode cX1_wholeRootsOf 2 = .ok (.iconst 0, 1) := by decide +kernel
theorem dX1_wholeRootsOf_3 : decode cX1_wholeRootsOf 3 = .ok (.istore_n 3, 1) := by decide +kernel
theorem dX1_wholeRootsOf_4 : decode cX1_wholeRootsOf 4 = .ok (.iload_n 3, 1) := by decide +kernel
theorem dX1_wholeRootsOf_5 : decode cX1_wholeRootsOf 5 = .ok (.aload_n 0, 1) := by decide +kernel
theorem dX1_wholeRootsOf_6 : decode cX1_wholeRootsOf 6 = .ok (.getfield 43, 3) := by decide +kernel
theorem dX1_wholeRootsOf_9 : decode cX1_wholeRootsOf 9 = .ok (.if_icmp .ge 40, 3) := by decide +kernel
theorem dX1_wholeRootsOf_12 : decode cX1_wholeRootsOf 12 = .ok (.aload_n 0, 1) := by decide +kernel
theorem dX1_wholeRootsOf_13 : decode cX1_wholeRootsOf 13 = .ok (.iload_n 3, 1) := by decide +kernel
theorem dX1_wholeRootsOf_14 : decode cX1_wholeRootsOf 14 = .ok (.invokevirtual 73, 3) := by decide +kernel
theorem dX1_wholeRootsOf_17 : decode cX1_wholeRootsOf 17 = .ok (.ifCond .eq 26, 3) := by decide +kernel
theorem dX1_wholeRootsOf_20 : decode cX1_wholeRootsOf 20 = .ok (.aload_n 0, 1) := by decide +kernel
theorem dX1_wholeRootsOf_21 : decode cX1_wholeRootsOf 21 = .ok (.getfield 15, 3) := by decide +kernel
theorem dX1_wholeRootsOf_24 : decode cX1_wholeRootsOf 24 = .ok (.iload_n 3, 1) := by decide +kernel
theorem dX1_wholeRootsOf_25 : decode cX1_wholeRootsOf 25 = .ok (.iaload, 1) := by decide +kernel
theorem dX1_wholeRootsOf_26 : decode cX1_wholeRootsOf 26 = .ok (.iload_n 1, 1) := by decide +kernel
theorem dX1_wholeRootsOf_27 : decode cX1_wholeRootsOf 27 = .ok (.if_icmp .eq 13, 3) := by decide +kernel
theorem dX1_wholeRootsOf_30 : decode cX1_wholeRootsOf 30 = .ok (.aload_n 0, 1) := by decide +kernel
theorem dX1_wholeRootsOf_31 : decode cX1_wholeRootsOf 31 = .ok (.getfield 18, 3) := by decide +kernel
theorem dX1_wholeRootsOf_34 : decode cX1_wholeRootsOf 34 = .ok (.iload_n 3, 1) := by decide +kernel
theorem dX1_wholeRootsOf_35 : decode cX1_wholeRootsOf 35 = .ok (.iaload, 1) := by decide +kernel
theorem dX1_wholeRootsOf_36 : decode cX1_wholeRootsOf 36 = .ok (.iload_n 1, 1) := by decide +kernel
theorem dX1_wholeRootsOf_37 : decode cX1_wholeRootsOf 37 = .ok (.if_icmp .ne 6, 3) := by decide +kernel
theorem dX1_wholeRootsOf_40 : decode cX1_wholeRootsOf 40 = .ok (.iinc 2 1, 3) := by decide +kernel
theorem dX1_wholeRootsOf_43 : decode cX1_wholeRootsOf 43 = .ok (.iinc 3 1, 3) := by decide +kernel
theorem dX1_wholeRootsOf_46 : decode cX1_wholeRootsOf 46 = .ok (.goto (-42), 3) := by decide +kernel
theorem dX1_wholeRootsOf_49 : decode cX1_wholeRootsOf 49 = .ok (.iload_n 2, 1) := by decide +kernel
theorem dX1_wholeRootsOf_50 : decode cX1_wholeRootsOf 50 = .ok (.ireturn, 1) := by decide +kernel
theorem dX1_measure_0 : decode cX1_measure 0 = .ok (.aload_n 0, 1) := by decide +kernel
theorem dX1_measure_1 : decode cX1_measure 1 = .ok (.getfield 33, 3) := by decide +kernel
theorem dX1_measure_4 : decode cX1_measure 4 = .ok (.sipush 1000, 3) := by decide +kernel
theorem dX1_measure_7 : decode cX1_measure 7 = .ok (.invokestatic 76, 3) := by decide +kernel
theorem dX1_measure_10 : decode cX1_measure 10 = .ok (.aload_n 0, 1) := by decide +kernel
theorem dX1_measure_11 : decode cX1_measure 11 = .ok (.getfield 33, 3) := by decide +kernel
theorem dX1_measure_14 : decode cX1_measure 14 = .ok (.iload_n 1, 1) := by decide +kernel
theorem dX1_measure_15 : decode cX1_measure 15 = .ok (.iconst 0, 1) := by decide +kernel
theorem dX1_measure_16 : decode cX1_measure 16 = .ok (.iastore, 1) := by decide +kernel
theorem dX1_measure_17 : decode cX1_measure 17 = .ok (.iconst 1, 1) := by decide +kernel
theorem dX1_measure_18 : decode cX1_measure 18 = .ok (.istore_n 2, 1) := by decide +kernel
theorem dX1_measure_19 : decode cX1_measure 19 = .ok (.iconst 1, 1) := by decide +kernel
theorem dX1_measure_20 : decode cX1_measure 20 = .ok (.istore_n 3, 1) := by decide +kernel
theorem dX1_measure_21 : decode cX1_measure 21 = .ok (.iload_n 3, 1) := by decide +kernel
theorem dX1_measure_22 : decode cX1_measure 22 = .ok (.aload_n 0, 1) := by decide +kernel
theorem dX1_measure_23 : decode cX1_measure 23 = .ok (.getfield 39, 3) := by decide +kernel
theorem dX1_measure_26 : decode cX1_measure 26 = .ok (.if_icmp .ge 72, 3) := by decide +kernel
theorem dX1_measure_29 : decode cX1_measure 29 = .ok (.iload_n 2, 1) := by decide +kernel
theorem dX1_measure_30 : decode cX1_measure 30 = .ok (.ifCond .eq 68, 3) := by decide +kernel
theorem dX1_measure_33 : decode cX1_measure 33 = .ok (.iconst 0, 1) := by decide +kernel
theorem dX1_measure_34 : decode cX1_measure 34 = .ok (.istore_n 2, 1) := by decide +kernel
theorem dX1_measure_35 : decode cX1_measure 35 = .ok (.iconst 0, 1) := by decide +kernel
theorem dX1_measure_36 : decode cX1_measure 36 = .ok (.istore 4, 2) := by decide +kernel
theorem dX1_measure_38 : decode cX1_measure 38 = .ok (.iload 4, 2) := by decide +kernel
theorem dX1_measure_40 : decode cX1_measure 40 = .ok (.aload_n 0, 1) := by decide +kernel
theorem dX1_measure_41 : decode cX1_measure 41 = .ok (.getfield 43, 3) := by decide +kernel
theorem dX1_measure_44 : decode cX1_measure 44 = .ok (.if_icmp .ge 48, 3) := by decide +kernel
theorem dX1_measure_47 : decode cX1_measure 47 = .ok (.aload_n 0, 1) := by decide +kernel
theorem dX1_measure_48 : decode cX1_measure 48 = .ok (.iload 4, 2) := by decide +kernel
theorem dX1_measure_50 : decode cX1_measure 50 = .ok (.invokevirtual 73, 3) := by decide +kernel
theorem dX1_measure_53 : decode cX1_measure 53 = .ok (.ifCond .eq 33, 3) := by decide +kernel
theorem dX1_measure_56 : decode cX1_measure 56 = .ok (.aload_n 0, 1) := by decide +kernel
theorem dX1_measure_57 : decode cX1_measure 57 = .ok (.aload_n 0, 1) := by decide +kernel
theorem dX1_measure_58 : decode cX1_measure 58 = .ok (.getfield 15, 3) := by decide +kernel
theorem dX1_measure_61 : decode cX1_measure 61 = .ok (.iload 4, 2) := by decide +kernel
theorem dX1_measure_63 : decode cX1_measure 63 = .ok (.iaload, 1) := by decide +kernel
theorem dX1_measure_64 : decode cX1_measure 64 = .ok (.aload_n 0, 1) := by decide +kernel
theorem dX1_measure_65 : decode cX1_measure 65 = .ok (.getfield 18, 3) := by decide +kernel
theorem dX1_measure_68 : decode cX1_measure 68 = .ok (.iload 4, 2) := by decide +kernel
theorem dX1_measure_70 : decode cX1_measure 70 = .ok (.iaload, 1) := by decide +kernel
theorem dX1_measure_71 : decode cX1_measure 71 = .ok (.aload_n 0, 1) := by decide +kernel
theorem dX1_measure_72 : decode cX1_measure 72 = .ok (.getfield 21, 3) := by decide +kernel
theorem dX1_measure_75 : decode cX1_measure 75 = .ok (.iload 4, 2) := by decide +kernel
theorem dX1_measure_77 : decode cX1_measure 77 = .ok (.iaload, 1) := by decide +kernel
theorem dX1_measure_78 : decode cX1_measure 78 = .ok (.invokevirtual 82, 3) := by decide +kernel
theorem dX1_measure_81 : decode cX1_measure 81 = .ok (.ifCond .eq 5, 3) := by decide +kernel
theorem dX1_measure_84 : decode cX1_measure 84 = .ok (.iconst 1, 1) := by decide +kernel
theorem dX1_measure_85 : decode cX1_measure 85 = .ok (.istore_n 2, 1) := by decide +kernel
theorem dX1_measure_86 : decode cX1_measure 86 = .ok (.iinc 4 1, 3) := by decide +kernel
theorem dX1_measure_89 : decode cX1_measure 89 = .ok (.goto (-51), 3) := by decide +kernel
theorem dX1_measure_92 : decode cX1_measure 92 = .ok (.iinc 3 1, 3) := by decide +kernel
theorem dX1_measure_95 : decode cX1_measure 95 = .ok (.goto (-74), 3) := by decide +kernel
theorem dX1_measure_98 : decode cX1_measure 98 = .ok (.aload_n 0, 1) := by decide +kernel
theorem dX1_measure_99 : decode cX1_measure 99 = .ok (.getfield 33, 3) := by decide +kernel
theorem dX1_measure_102 : decode cX1_measure 102 = .ok (.areturn, 1) := by decide +kernel
theorem dX1_shorten_0 : decode cX1_shorten 0 = .ok (.aload_n 0, 1) := by decide +kernel
theorem dX1_shorten_1 : decode cX1_shorten 1 = .ok (.getfield 33, 3) := by decide +kernel
theorem dX1_shorten_4 : decode cX1_shorten 4 = .ok (.iload_n 1, 1) := by decide +kernel
theorem dX1_shorten_5 : decode cX1_shorten 5 = .ok (.iaload, 1) := by decide +kernel
theorem dX1_shorten_6 : decode cX1_shorten 6 = .ok (.aload_n 0, 1) := by decide +kernel
theorem dX1_shorten_7 : decode cX1_shorten 7 = .ok (.getfield 33, 3) := by decide +kernel
theorem dX1_shorten_10 : decode cX1_shorten 10 = .ok (.iload_n 2, 1) := by decide +kernel
theorem dX1_shorten_11 : decode cX1_shorten 11 = .ok (.iaload, 1) := by decide +kernel
theorem dX1_shorten_12 : decode cX1_shorten 12 = .ok (.if_icmp .ge 7, 3) := by decide +kernel
theorem dX1_shorten_15 : decode cX1_shorten 15 = .ok (.iload_n 2, 1) := by decide +kernel
theorem dX1_shorten_16 : decode cX1_shorten 16 = .ok (.goto 4, 3) := by decide +kernel
theorem dX1_shorten_19 : decode cX1_shorten 19 = .ok (.iload_n 1, 1) := by decide +kernel
theorem dX1_shorten_20 : decode cX1_shorten 20 = .ok (.istore 4, 2) := by decide +kernel
theorem dX1_shorten_22 : decode cX1_shorten 22 = .ok (.aload_n 0, 1) := by decide +kernel
theorem dX1_shorten_23 : decode cX1_shorten 23 = .ok (.getfield 33, 3) := by decide +kernel
theorem dX1_shorten_26 : decode cX1_shorten 26 = .ok (.iload_n 1, 1) := by decide +kernel
theorem dX1_shorten_27 : decode cX1_shorten 27 = .ok (.iaload, 1) := by decide +kernel
theorem dX1_shorten_28 : decode cX1_shorten 28 = .ok (.aload_n 0, 1) := by decide +kernel
theorem dX1_shorten_29 : decode cX1_shorten 29 = .ok (.getfield 33, 3) := by decide +kernel
theorem dX1_shorten_32 : decode cX1_shorten 32 = .ok (.iload_n 2, 1) := by decide +kernel
theorem dX1_shorten_33 : decode cX1_shorten 33 = .ok (.iaload, 1) := by decide +kernel
theorem dX1_shorten_34 : decode cX1_shorten 34 = .ok (.invokestatic 85, 3) := by decide +kernel
theorem dX1_shorten_37 : decode cX1_shorten 37 = .ok (.iload_n 3, 1) := by decide +kernel
theorem dX1_shorten_38 : decode cX1_shorten 38 = .ok (.iadd, 1) := by decide +kernel
theorem dX1_shorten_39 : decode cX1_shorten 39 = .ok (.istore 5, 2) := by decide +kernel
theorem dX1_shorten_41 : decode cX1_shorten 41 = .ok (.iload 5, 2) := by decide +kernel
theorem dX1_shorten_43 : decode cX1_shorten 43 = .ok (.aload_n 0, 1) := by decide +kernel
theorem dX1_shorten_44 : decode cX1_shorten 44 = .ok (.getfield 33, 3) := by decide +kernel
theorem dX1_shorten_47 : decode cX1_shorten 47 = .ok (.iload 4, 2) := by decide +kernel
theorem dX1_shorten_49 : decode cX1_shorten 49 = .ok (.iaload, 1) := by decide +kernel
theorem dX1_shorten_50 : decode cX1_shorten 50 = .ok (.if_icmp .lt 5, 3) := by decide +kernel
theorem dX1_shorten_53 : decode cX1_shorten 53 = .ok (.iconst 0, 1) := by decide +kernel
theorem dX1_shorten_54 : decode cX1_shorten 54 = .ok (.ireturn, 1) := by decide +kernel
theorem dX1_shorten_55 : decode cX1_shorten 55 = .ok (.aload_n 0, 1) := by decide +kernel
theorem dX1_shorten_56 : decode cX1_shorten 56 = .ok (.getfield 33, 3) := by decide +kernel
theorem dX1_shorten_59 : decode cX1_shorten 59 = .ok (.iload 4, 2) := by decide +kernel
theorem dX1_shorten_61 : decode cX1_shorten 61 = .ok (.iload 5, 2) := by decide +kernel
theorem dX1_shorten_63 : decode cX1_shorten 63 = .ok (.iastore, 1) := by decide +kernel
theorem dX1_shorten_64 : decode cX1_shorten 64 = .ok (.iconst 1, 1) := by decide +kernel
theorem dX1_shorten_65 : decode cX1_shorten 65 = .ok (.ireturn, 1) := by decide +kernel
theorem dX1_treesInReach_0 : decode cX1_treesInReach 0 = .ok (.aload_n 0, 1) := by decide +kernel
theorem dX1_treesInReach_1 : decode cX1_treesInReach 1 = .ok (.iload_n 1, 1) := by decide +kernel
theorem dX1_treesInReach_2 : decode cX1_treesInReach 2 = .ok (.invokevirtual 91, 3) := by decide +kernel
theorem dX1_treesInReach_5 : decode cX1_treesInReach 5 = .ok (.astore_n 2, 1) := by decide +kernel
theorem dX1_treesInReach_6 : decode cX1_treesInReach 6 = .ok (.iconst 0, 1) := by decide +kernel
theorem dX1_treesInReach_7 : decode cX1_treesInReach 7 = .ok (.istore_n 3, 1) := by decide +kernel
theorem dX1_treesInReach_8 : decode cX1_treesInReach 8 = .ok (.iconst 0, 1) := by decide +kernel
theorem dX1_treesInReach_9 : decode cX1_treesInReach 9 = .ok (.istore 4, 2) := by decide +kernel
theorem dX1_treesInReach_11 : decode cX1_treesInReach 11 = .ok (.iload 4, 2) := by decide +kernel
theorem dX1_treesInReach_13 : decode cX1_treesInReach 13 = .ok (.aload_n 0, 1) := by decide +kernel
theorem dX1_treesInReach_14 : decode cX1_treesInReach 14 = .ok (.getfield 39, 3) := by decide +kernel
theorem dX1_treesInReach_17 : decode cX1_treesInReach 17 = .ok (.if_icmp .ge 26, 3) := by decide +kernel
theorem dX1_treesInReach_20 : decode cX1_treesInReach 20 = .ok (.aload_n 2, 1) := by decide +kernel
theorem dX1_treesInReach_21 : decode cX1_treesInReach 21 = .ok (.iload 4, 2) := by decide +kernel
theorem dX1_treesInReach_23 : decode cX1_treesInReach 23 = .ok (.iaload, 1) := by decide +kernel
theorem dX1_treesInReach_24 : decode cX1_treesInReach 24 = .ok (.sipush 1000, 3) := by decide +kernel
theorem dX1_treesInReach_27 : decode cX1_treesInReach 27 = .ok (.if_icmp .eq 10, 3) := by decide +kernel
theorem dX1_treesInReach_30 : decode cX1_treesInReach 30 = .ok (.iload_n 3, 1) := by decide +kernel
theorem dX1_treesInReach_31 : decode cX1_treesInReach 31 = .ok (.iconst 1, 1) := by decide +kernel
theorem dX1_treesInReach_32 : decode cX1_treesInReach 32 = .ok (.iload 4, 2) := by decide +kernel
theorem dX1_treesInReach_34 : decode cX1_treesInReach 34 = .ok (.ishl, 1) := by decide +kernel
theorem dX1_treesInReach_35 : decode cX1_treesInReach 35 = .ok (.ior, 1) := by decide +kernel
theorem dX1_treesInReach_36 : decode cX1_treesInReach 36 = .ok (.istore_n 3, 1) := by decide +kernel
theorem dX1_treesInReach_37 : decode cX1_treesInReach 37 = .ok (.iinc 4 1, 3) := by decide +kernel
theorem dX1_treesInReach_40 : decode cX1_treesInReach 40 = .ok (.goto (-29), 3) := by decide +kernel
theorem dX1_treesInReach_43 : decode cX1_treesInReach 43 = .ok (.iload_n 3, 1) := by decide +kernel
theorem dX1_treesInReach_44 : decode cX1_treesInReach 44 = .ok (.ireturn, 1) := by decide +kernel
theorem dX1_loudness_0 : decode cX1_loudness 0 = .ok (.iconst 0, 1) := by decide +kernel
theorem dX1_loudness_1 : decode cX1_loudness 1 = .ok (.iload_n 2, 1) := by decide +kernel
theorem dX1_loudness_2 : decode cX1_loudness 2 = .ok (.aload_n 3, 1) := by decide +kernel
theorem dX1_loudness_3 : decode cX1_loudness 3 = .ok (.iload_n 1, 1) := by decide +kernel
theorem dX1_loudness_4 : decode cX1_loudness 4 = .ok (.iaload, 1) := by decide +kernel
theorem dX1_loudness_5 : decode cX1_loudness 5 = .ok (.isub, 1) := by decide +kernel
theorem dX1_loudness_6 : decode cX1_loudness 6 = .ok (.invokestatic 95, 3) := by decide +kernel
theorem dX1_loudness_9 : decode cX1_loudness 9 = .ok (.istore 4, 2) := by decide +kernel
theorem dX1_loudness_11 : decode cX1_loudness 11 = .ok (.aload_n 0, 1) := by decide +kernel
theorem dX1_loudness_12 : decode cX1_loudness 12 = .ok (.getfield 9, 3) := by decide +kernel
theorem dX1_loudness_15 : decode cX1_loudness 15 = .ok (.iload_n 1, 1) := by decide +kernel
theorem dX1_loudness_16 : decode cX1_loudness 16 = .ok (.iaload, 1) := by decide +kernel
theorem dX1_loudness_17 : decode cX1_loudness 17 = .ok (.tableswitch 48 1 3 #[27, 32, 37], 27) := by decide +kernel
theorem dX1_loudness_44 : decode cX1_loudness 44 = .ok (.iconst 2, 1) := by decide +kernel
theorem dX1_loudness_45 : decode cX1_loudness 45 = .ok (.iload 4, 2) := by decide +kernel
theorem dX1_loudness_47 : decode cX1_loudness 47 = .ok (.imul, 1) := by decide +kernel
theorem dX1_loudness_48 : decode cX1_loudness 48 = .ok (.ireturn, 1) := by decide +kernel
theorem dX1_loudness_49 : decode cX1_loudness 49 = .ok (.iload 4, 2) := by decide +kernel
theorem dX1_loudness_51 : decode cX1_loudness 51 = .ok (.iconst 2, 1) := by decide +kernel
theorem dX1_loudness_52 : decode cX1_loudness 52 = .ok (.idiv, 1) := by decide +kernel
theorem dX1_loudness_53 : decode cX1_loudness 53 = .ok (.ireturn, 1) := by decide +kernel
theorem dX1_loudness_54 : decode cX1_loudness 54 = .ok (.iconst 0, 1) := by decide +kernel
theorem dX1_loudness_55 : decode cX1_loudness 55 = .ok (.iconst 2, 1) := by decide +kernel
theorem dX1_loudness_56 : decode cX1_loudness 56 = .ok (.iload 4, 2) := by decide +kernel
theorem dX1_loudness_58 : decode cX1_loudness 58 = .ok (.imul, 1) := by decide +kernel
theorem dX1_loudness_59 : decode cX1_loudness 59 = .ok (.iconst 3, 1) := by decide +kernel
theorem dX1_loudness_60 : decode cX1_loudness 60 = .ok (.isub, 1) := by decide +kernel
theorem dX1_loudness_61 : decode cX1_loudness 61 = .ok (.invokestatic 95, 3) := by decide +kernel
theorem dX1_loudness_64 : decode cX1_loudness 64 = .ok (.ireturn, 1) := by decide +kernel
theorem dX1_loudness_65 : decode cX1_loudness 65 = .ok (.iload 4, 2) := by decide +kernel
theorem dX1_loudness_67 : decode cX1_loudness 67 = .ok (.ireturn, 1) := by decide +kernel
theorem dX1_hearers_0 : decode cX1_hearers 0 = .ok (.aload_n 0, 1) := by decide +kernel
theorem dX1_hearers_1 : decode cX1_hearers 1 = .ok (.aload_n 0, 1) := by decide +kernel
theorem dX1_hearers_2 : decode cX1_hearers 2 = .ok (.iload_n 1, 1) := by decide +kernel
theorem dX1_hearers_3 : decode cX1_hearers 3 = .ok (.invokevirtual 91, 3) := by decide +kernel
theorem dX1_hearers_6 : decode cX1_hearers 6 = .ok (.iload_n 2, 1) := by decide +kernel
theorem dX1_hearers_7 : decode cX1_hearers 7 = .ok (.invokevirtual 98, 3) := by decide +kernel
theorem dX1_hearers_10 : decode cX1_hearers 10 = .ok (.ireturn, 1) := by decide +kernel
theorem dX1_hearersWithin_0 : decode cX1_hearersWithin 0 = .ok (.iconst 0, 1) := by decide +kernel
theorem dX1_hearersWithin_1 : decode cX1_hearersWithin 1 = .ok (.istore_n 3, 1) := by decide +kernel
theorem dX1_hearersWithin_2 : decode cX1_hearersWithin 2 = .ok (.iconst 0, 1) := by decide +kernel
theorem dX1_hearersWithin_3 : decode cX1_hearersWithin 3 = .ok (.istore 4, 2) := by decide +kernel
theorem dX1_hearersWithin_5 : decode cX1_hearersWithin 5 = .ok (.iload 4, 2) := by decide +kernel
theorem dX1_hearersWithin_7 : decode cX1_hearersWithin 7 = .ok (.aload_n 0, 1) := by decide +kernel
theorem dX1_hearersWithin_8 : decode cX1_hearersWithin 8 = .ok (.getfield 39, 3) := by decide +kernel
theorem dX1_hearersWithin_11 : decode cX1_hearersWithin 11 = .ok (.if_icmp .ge 31, 3) := by decide +kernel
theorem dX1_hearersWithin_14 : decode cX1_hearersWithin 14 = .ok (.aload_n 0, 1) := by decide +kernel
theorem dX1_hearersWithin_15 : decode cX1_hearersWithin 15 = .ok (.iload 4, 2) := by decide +kernel
theorem dX1_hearersWithin_17 : decode cX1_hearersWithin 17 = .ok (.iload_n 2, 1) := by decide +kernel
theorem dX1_hearersWithin_18 : decode cX1_hearersWithin 18 = .ok (.aload_n 1, 1) := by decide +kernel
theorem dX1_hearersWithin_19 : decode cX1_hearersWithin 19 = .ok (.invokevirtual 102, 3) := by decide +kernel
theorem dX1_hearersWithin_22 : decode cX1_hearersWithin 22 = .ok (.aload_n 0, 1) := by decide +kernel
theorem dX1_hearersWithin_23 : decode cX1_hearersWithin 23 = .ok (.getfield 49, 3) := by decide +kernel
theorem dX1_hearersWithin_26 : decode cX1_hearersWithin 26 = .ok (.if_icmp .le 10, 3) := by decide +kernel
theorem dX1_hearersWithin_29 : decode cX1_hearersWithin 29 = .ok (.iload_n 3, 1) := by decide +kernel
theorem dX1_hearersWithin_30 : decode cX1_hearersWithin 30 = .ok (.iconst 1, 1) := by decide +kernel
theorem dX1_hearersWithin_31 : decode cX1_hearersWithin 31 = .ok (.iload 4, 2) := by decide +kernel
theorem dX1_hearersWithin_33 : decode cX1_hearersWithin 33 = .ok (.ishl, 1) := by decide +kernel
theorem dX1_hearersWithin_34 : decode cX1_hearersWithin 34 = .ok (.ior, 1) := by decide +kernel
theorem dX1_hearersWithin_35 : decode cX1_hearersWithin 35 = .ok (.istore_n 3, 1) := by decide +kernel
theorem dX1_hearersWithin_36 : decode cX1_hearersWithin 36 = .ok (.iinc 4 1, 3) := by decide +kernel
theorem dX1_hearersWithin_39 : decode cX1_hearersWithin 39 = .ok (.goto (-34), 3) := by decide +kernel
theorem dX1_hearersWithin_42 : decode cX1_hearersWithin 42 = .ok (.iload_n 3, 1) := by decide +kernel
theorem dX1_hearersWithin_43 : decode cX1_hearersWithin 43 = .ok (.ireturn, 1) := by decide +kernel
theorem dX1_leastBreath_0 : decode cX1_leastBreath 0 = .ok (.aload_n 0, 1) := by decide +kernel
theorem dX1_leastBreath_1 : decode cX1_leastBreath 1 = .ok (.iload_n 1, 1) := by decide +kernel
theorem dX1_leastBreath_2 : decode cX1_leastBreath 2 = .ok (.invokevirtual 91, 3) := by decide +kernel
theorem dX1_leastBreath_5 : decode cX1_leastBreath 5 = .ok (.astore 4, 2) := by decide +kernel
theorem dX1_leastBreath_7 : decode cX1_leastBreath 7 = .ok (.iconst 1, 1) := by decide +kernel
theorem dX1_leastBreath_8 : decode cX1_leastBreath 8 = .ok (.istore 5, 2) := by decide +kernel
theorem dX1_leastBreath_10 : decode cX1_leastBreath 10 = .ok (.iload 5, 2) := by decide +kernel
theorem dX1_leastBreath_12 : decode cX1_leastBreath 12 = .ok (.bipush 60, 2) := by decide +kernel
theorem dX1_leastBreath_14 : decode cX1_leastBreath 14 = .ok (.if_icmp .gt 26, 3) := by decide +kernel
theorem dX1_leastBreath_17 : decode cX1_leastBreath 17 = .ok (.aload_n 0, 1) := by decide +kernel
theorem dX1_leastBreath_18 : decode cX1_leastBreath 18 = .ok (.aload 4, 2) := by decide +kernel
theorem dX1_leastBreath_20 : decode cX1_leastBreath 20 = .ok (.iload 5, 2) := by decide +kernel
theorem dX1_leastBreath_22 : decode cX1_leastBreath 22 = .ok (.invokevirtual 98, 3) := by decide +kernel
theorem dX1_leastBreath_25 : decode cX1_leastBreath 25 = .ok (.iload_n 3, 1) := by decide +kernel
theorem dX1_leastBreath_26 : decode cX1_leastBreath 26 = .ok (.iand, 1) := by decide +kernel
theorem dX1_leastBreath_27 : decode cX1_leastBreath 27 = .ok (.iload_n 2, 1) := by decide +kernel
theorem dX1_leastBreath_28 : decode cX1_leastBreath 28 = .ok (.if_icmp .ne 6, 3) := by decide +kernel
theorem dX1_leastBreath_31 : decode cX1_leastBreath 31 = .ok (.iload 5, 2) := by decide +kernel
theorem dX1_leastBreath_33 : decode cX1_leastBreath 33 = .ok (.ireturn, 1) := by decide +kernel
theorem dX1_leastBreath_34 : decode cX1_leastBreath 34 = .ok (.iinc 5 1, 3) := by decide +kernel
theorem dX1_leastBreath_37 : decode cX1_leastBreath 37 = .ok (.goto (-27), 3) := by decide +kernel
theorem dX1_leastBreath_40 : decode cX1_leastBreath 40 = .ok (.bipush (-4), 2) := by decide +kernel
theorem dX1_leastBreath_42 : decode cX1_leastBreath 42 = .ok (.ireturn, 1) := by decide +kernel
theorem dX1_listen_0 : decode cX1_listen 0 = .ok (.iconst 0, 1) := by decide +kernel
theorem dX1_listen_1 : decode cX1_listen 1 = .ok (.istore_n 1, 1) := by decide +kernel
theorem dX1_listen_2 : decode cX1_listen 2 = .ok (.iload_n 1, 1) := by decide +kernel
theorem dX1_listen_3 : decode cX1_listen 3 = .ok (.aload_n 0, 1) := by decide +kernel
theorem dX1_listen_4 : decode cX1_listen 4 = .ok (.getfield 52, 3) := by decide +kernel
theorem dX1_listen_7 : decode cX1_listen 7 = .ok (.if_icmp .ge 35, 3) := by decide +kernel
theorem dX1_listen_10 : decode cX1_listen 10 = .ok (.aload_n 0, 1) := by decide +kernel
theorem dX1_listen_11 : decode cX1_listen 11 = .ok (.getfield 36, 3) := by decide +kernel
theorem dX1_listen_14 : decode cX1_listen 14 = .ok (.iload_n 1, 1) := by decide +kernel
theorem dX1_listen_15 : decode cX1_listen 15 = .ok (.aload_n 0, 1) := by decide +kernel
theorem dX1_listen_16 : decode cX1_listen 16 = .ok (.aload_n 0, 1) := by decide +kernel
theorem dX1_listen_17 : decode cX1_listen 17 = .ok (.aload_n 0, 1) := by decide +kernel
theorem dX1_listen_18 : decode cX1_listen 18 = .ok (.getfield 27, 3) := by decide +kernel
theorem dX1_listen_21 : decode cX1_listen 21 = .ok (.iload_n 1, 1) := by decide +kernel
theorem dX1_listen_22 : decode cX1_listen 22 = .ok (.iaload, 1) := by decide +kernel
theorem dX1_listen_23 : decode cX1_listen 23 = .ok (.invokevirtual 91, 3) := by decide +kernel
theorem dX1_listen_26 : decode cX1_listen 26 = .ok (.aload_n 0, 1) := by decide +kernel
theorem dX1_listen_27 : decode cX1_listen 27 = .ok (.getfield 30, 3) := by decide +kernel
theorem dX1_listen_30 : decode cX1_listen 30 = .ok (.iload_n 1, 1) := by decide +kernel
theorem dX1_listen_31 : decode cX1_listen 31 = .ok (.iaload, 1) := by decide +kernel
theorem dX1_listen_32 : decode cX1_listen 32 = .ok (.invokevirtual 98, 3) := by decide +kernel
theorem dX1_listen_35 : decode cX1_listen 35 = .ok (.iastore, 1) := by decide +kernel
theorem dX1_listen_36 : decode cX1_listen 36 = .ok (.iinc 1 1, 3) := by decide +kernel
theorem dX1_listen_39 : decode cX1_listen 39 = .ok (.goto (-37), 3) := by decide +kernel
theorem dX1_listen_42 : decode cX1_listen 42 = .ok (.aload_n 0, 1) := by decide +kernel
theorem dX1_listen_43 : decode cX1_listen 43 = .ok (.getfield 36, 3) := by decide +kernel
theorem dX1_listen_46 : decode cX1_listen 46 = .ok (.areturn, 1) := by decide +kernel
theorem dX1_talksHeardAt_0 : decode cX1_talksHeardAt 0 = .ok (.aload_n 0, 1) := by decide +kernel
theorem dX1_talksHeardAt_1 : decode cX1_talksHeardAt 1 = .ok (.invokevirtual 106, 3) := by decide +kernel
theorem dX1_talksHeardAt_4 : decode cX1_talksHeardAt 4 = .ok (.astore_n 2, 1) := by decide +kernel
theorem dX1_talksHeardAt_5 : decode cX1_talksHeardAt 5 = .ok (.iconst 0, 1) := by decide +kernel
theorem dX1_talksHeardAt_6 : decode cX1_talksHeardAt 6 = .ok (.istore_n 3, 1) := by decide +kernel
theorem dX1_talksHeardAt_7 : decode cX1_talksHeardAt 7 = .ok (.iconst 0, 1) := by decide +kernel
theorem dX1_talksHeardAt_8 : decode cX1_talksHeardAt 8 = .ok (.istore 4, 2) := by decide +kernel
theorem dX1_talksHeardAt_10 : decode cX1_talksHeardAt 10 = .ok (.iload 4, 2) := by decide +kernel
theorem dX1_talksHeardAt_12 : decode cX1_talksHeardAt 12 = .ok (.aload_n 0, 1) := by decide +kernel
theorem dX1_talksHeardAt_13 : decode cX1_talksHeardAt 13 = .ok (.getfield 52, 3) := by decide +kernel
theorem dX1_talksHeardAt_16 : decode cX1_talksHeardAt 16 = .ok (.if_icmp .ge 27, 3) := by decide +kernel
theorem dX1_talksHeardAt_19 : decode cX1_talksHeardAt 19 = .ok (.aload_n 2, 1) := by decide +kernel
theorem dX1_talksHeardAt_20 : decode cX1_talksHeardAt 20 = .ok (.iload 4, 2) := by decide +kernel
theorem dX1_talksHeardAt_22 : decode cX1_talksHeardAt 22 = .ok (.iaload, 1) := by decide +kernel
theorem dX1_talksHeardAt_23 : decode cX1_talksHeardAt 23 = .ok (.iconst 1, 1) := by decide +kernel
theorem dX1_talksHeardAt_24 : decode cX1_talksHeardAt 24 = .ok (.iload_n 1, 1) := by decide +kernel
theorem dX1_talksHeardAt_25 : decode cX1_talksHeardAt 25 = .ok (.ishl, 1) := by decide +kernel
theorem dX1_talksHeardAt_26 : decode cX1_talksHeardAt 26 = .ok (.iand, 1) := by decide +kernel
theorem dX1_talksHeardAt_27 : decode cX1_talksHeardAt 27 = .ok (.ifCond .eq 10, 3) := by decide +kernel
theorem dX1_talksHeardAt_30 : decode cX1_talksHeardAt 30 = .ok (.iload_n 3, 1) := by decide +kernel
theorem dX1_talksHeardAt_31 : decode cX1_talksHeardAt 31 = .ok (.iconst 1, 1) := by decide +kernel
theorem dX1_talksHeardAt_32 : decode cX1_talksHeardAt 32 = .ok (.iload 4, 2) := by decide +kernel
theorem dX1_talksHeardAt_34 : decode cX1_talksHeardAt 34 = .ok (.ishl, 1) := by decide +kernel
theorem dX1_talksHeardAt_35 : decode cX1_talksHeardAt 35 = .ok (.ior, 1) := by decide +kernel
theorem dX1_talksHeardAt_36 : decode cX1_talksHeardAt 36 = .ok (.istore_n 3, 1) := by decide +kernel
theorem dX1_talksHeardAt_37 : decode cX1_talksHeardAt 37 = .ok (.iinc 4 1, 3) := by decide +kernel
theorem dX1_talksHeardAt_40 : decode cX1_talksHeardAt 40 = .ok (.goto (-30), 3) := by decide +kernel
theorem dX1_talksHeardAt_43 : decode cX1_talksHeardAt 43 = .ok (.iload_n 3, 1) := by decide +kernel
theorem dX1_talksHeardAt_44 : decode cX1_talksHeardAt 44 = .ok (.ireturn, 1) := by decide +kernel
theorem dX1_hearersOfAllTalks_0 : decode cX1_hearersOfAllTalks 0 = .ok (.aload_n 0, 1) := by decide +kernel
theorem dX1_hearersOfAllTalks_1 : decode cX1_hearersOfAllTalks 1 = .ok (.invokevirtual 106, 3) := by decide +kernel
theorem dX1_hearersOfAllTalks_4 : decode cX1_hearersOfAllTalks 4 = .ok (.astore_n 1, 1) := by decide +kernel
theorem dX1_hearersOfAllTalks_5 : decode cX1_hearersOfAllTalks 5 = .ok (.iconst 0, 1) := by decide +kernel
theorem dX1_hearersOfAllTalks_6 : decode cX1_hearersOfAllTalks 6 = .ok (.istore_n 2, 1) := by decide +kernel
theorem dX1_hearersOfAllTalks_7 : decode cX1_hearersOfAllTalks 7 = .ok (.iconst 0, 1) := by decide +kernel
theorem dX1_hearersOfAllTalks_8 : decode cX1_hearersOfAllTalks 8 = .ok (.istore_n 3, 1) := by decide +kernel
theorem dX1_hearersOfAllTalks_9 : decode cX1_hearersOfAllTalks 9 = .ok (.iload_n 3, 1) := by decide +kernel
theorem dX1_hearersOfAllTalks_10 : decode cX1_hearersOfAllTalks 10 = .ok (.aload_n 0, 1) := by decide +kernel
theorem dX1_hearersOfAllTalks_11 : decode cX1_hearersOfAllTalks 11 = .ok (.getfield 52, 3) := by decide +kernel
theorem dX1_hearersOfAllTalks_14 : decode cX1_hearersOfAllTalks 14 = .ok (.if_icmp .ge 18, 3) := by decide +kernel
theorem dX1_hearersOfAllTalks_17 : decode cX1_hearersOfAllTalks 17 = .ok (.iload_n 2, 1) := by decide +kernel
theorem dX1_hearersOfAllTalks_18 : decode cX1_hearersOfAllTalks 18 = .ok (.aload_n 1, 1) := by decide +kernel
theorem dX1_hearersOfAllTalks_19 : decode cX1_hearersOfAllTalks 19 = .ok (.iload_n 3, 1) := by decide +kernel
theorem dX1_hearersOfAllTalks_20 : decode cX1_hearersOfAllTalks 20 = .ok (.iaload, 1) := by decide +kernel
theorem dX1_hearersOfAllTalks_21 : decode cX1_hearersOfAllTalks 21 = .ok (.invokestatic 110, 3) := by decide +kernel
theorem dX1_hearersOfAllTalks_24 : decode cX1_hearersOfAllTalks 24 = .ok (.iadd, 1) := by decide +kernel
theorem dX1_hearersOfAllTalks_25 : decode cX1_hearersOfAllTalks 25 = .ok (.istore_n 2, 1) := by decide +kernel
theorem dX1_hearersOfAllTalks_26 : decode cX1_hearersOfAllTalks 26 = .ok (.iinc 3 1, 3) := by decide +kernel
theorem dX1_hearersOfAllTalks_29 : decode cX1_hearersOfAllTalks 29 = .ok (.goto (-20), 3) := by decide +kernel
theorem dX1_hearersOfAllTalks_32 : decode cX1_hearersOfAllTalks 32 = .ok (.iload_n 2, 1) := by decide +kernel
theorem dX1_hearersOfAllTalks_33 : decode cX1_hearersOfAllTalks 33 = .ok (.ireturn, 1) := by decide +kernel
theorem dX1_areCrossed_0 : decode cX1_areCrossed 0 = .ok (.aload_n 0, 1) := by decide +kernel
theorem dX1_areCrossed_1 : decode cX1_areCrossed 1 = .ok (.getfield 24, 3) := by decide +kernel
theorem dX1_areCrossed_4 : decode cX1_areCrossed 4 = .ok (.iload_n 1, 1) := by decide +kernel
theorem dX1_areCrossed_5 : decode cX1_areCrossed 5 = .ok (.iaload, 1) := by decide +kernel
theorem dX1_areCrossed_6 : decode cX1_areCrossed 6 = .ok (.aload_n 0, 1) := by decide +kernel
theorem dX1_areCrossed_7 : decode cX1_areCrossed 7 = .ok (.getfield 24, 3) := by decide +kernel
theorem dX1_areCrossed_10 : decode cX1_areCrossed 10 = .ok (.iload_n 2, 1) := by decide +kernel
theorem dX1_areCrossed_11 : decode cX1_areCrossed 11 = .ok (.iaload, 1) := by decide +kernel
theorem dX1_areCrossed_12 : decode cX1_areCrossed 12 = .ok (.if_icmp .ne 17, 3) := by decide +kernel
theorem dX1_areCrossed_15 : decode cX1_areCrossed 15 = .ok (.aload_n 3, 1) := by decide +kernel
theorem dX1_areCrossed_16 : decode cX1_areCrossed 16 = .ok (.iload_n 1, 1) := by decide +kernel
theorem dX1_areCrossed_17 : decode cX1_areCrossed 17 = .ok (.iaload, 1) := by decide +kernel
theorem dX1_areCrossed_18 : decode cX1_areCrossed 18 = .ok (.aload_n 3, 1) := by decide +kernel
theorem dX1_areCrossed_19 : decode cX1_areCrossed 19 = .ok (.iload_n 2, 1) := by decide +kernel
theorem dX1_areCrossed_20 : decode cX1_areCrossed 20 = .ok (.iaload, 1) := by decide +kernel
theorem dX1_areCrossed_21 : decode cX1_areCrossed 21 = .ok (.iand, 1) := by decide +kernel
theorem dX1_areCrossed_22 : decode cX1_areCrossed 22 = .ok (.ifCond .eq 7, 3) := by decide +kernel
theorem dX1_areCrossed_25 : decode cX1_areCrossed 25 = .ok (.iconst 1, 1) := by decide +kernel
theorem dX1_areCrossed_26 : decode cX1_areCrossed 26 = .ok (.goto 4, 3) := by decide +kernel
theorem dX1_areCrossed_29 : decode cX1_areCrossed 29 = .ok (.iconst 0, 1) := by decide +kernel
theorem dX1_areCrossed_30 : decode cX1_areCrossed 30 = .ok (.ireturn, 1) := by decide +kernel
theorem dX1_crossedPairs_0 : decode cX1_crossedPairs 0 = .ok (.aload_n 0, 1) := by decide +kernel
theorem dX1_crossedPairs_1 : decode cX1_crossedPairs 1 = .ok (.invokevirtual 106, 3) := by decide +kernel
theorem dX1_crossedPairs_4 : decode cX1_crossedPairs 4 = .ok (.astore_n 1, 1) := by decide +kernel
theorem dX1_crossedPairs_5 : decode cX1_crossedPairs 5 = .ok (.iconst 0, 1) := by decide +kernel
theorem dX1_crossedPairs_6 : decode cX1_crossedPairs 6 = .ok (.istore_n 2, 1) := by decide +kernel
theorem dX1_crossedPairs_7 : decode cX1_crossedPairs 7 = .ok (.iconst 0, 1) := by decide +kernel
theorem dX1_crossedPairs_8 : decode cX1_crossedPairs 8 = .ok (.istore_n 3, 1) := by decide +kernel
theorem dX1_crossedPairs_9 : decode cX1_crossedPairs 9 = .ok (.iload_n 3, 1) := by decide +kernel
theorem dX1_crossedPairs_10 : decode cX1_crossedPairs 10 = .ok (.aload_n 0, 1) := by decide +kernel
theorem dX1_crossedPairs_11 : decode cX1_crossedPairs 11 = .ok (.getfield 52, 3) := by decide +kernel
theorem dX1_crossedPairs_14 : decode cX1_crossedPairs 14 = .ok (.if_icmp .ge 38, 3) := by decide +kernel
theorem dX1_crossedPairs_17 : decode cX1_crossedPairs 17 = .ok (.iconst 0, 1) := by decide +kernel
theorem dX1_crossedPairs_18 : decode cX1_crossedPairs 18 = .ok (.istore 4, 2) := by decide +kernel
theorem dX1_crossedPairs_20 : decode cX1_crossedPairs 20 = .ok (.iload 4, 2) := by decide +kernel
theorem dX1_crossedPairs_22 : decode cX1_crossedPairs 22 = .ok (.iload_n 3, 1) := by decide +kernel
theorem dX1_crossedPairs_23 : decode cX1_crossedPairs 23 = .ok (.if_icmp .ge 23, 3) := by decide +kernel
theorem dX1_crossedPairs_26 : decode cX1_crossedPairs 26 = .ok (.aload_n 0, 1) := by decide +kernel
theorem dX1_crossedPairs_27 : decode cX1_crossedPairs 27 = .ok (.iload_n 3, 1) := by decide +kernel
theorem dX1_crossedPairs_28 : decode cX1_crossedPairs 28 = .ok (.iload 4, 2) := by decide +kernel
theorem dX1_crossedPairs_30 : decode cX1_crossedPairs 30 = .ok (.aload_n 1, 1) := by decide +kernel
theorem dX1_crossedPairs_31 : decode cX1_crossedPairs 31 = .ok (.invokevirtual 116, 3) := by decide +kernel
theorem dX1_crossedPairs_34 : decode cX1_crossedPairs 34 = .ok (.ifCond .eq 6, 3) := by decide +kernel
theorem dX1_crossedPairs_37 : decode cX1_crossedPairs 37 = .ok (.iinc 2 1, 3) := by decide +kernel
theorem dX1_crossedPairs_40 : decode cX1_crossedPairs 40 = .ok (.iinc 4 1, 3) := by decide +kernel
theorem dX1_crossedPairs_43 : decode cX1_crossedPairs 43 = .ok (.goto (-23), 3) := by decide +kernel
theorem dX1_crossedPairs_46 : decode cX1_crossedPairs 46 = .ok (.iinc 3 1, 3) := by decide +kernel
theorem dX1_crossedPairs_49 : decode cX1_crossedPairs 49 = .ok (.goto (-40), 3) := by decide +kernel
theorem dX1_crossedPairs_52 : decode cX1_crossedPairs 52 = .ok (.iload_n 2, 1) := by decide +kernel
theorem dX1_crossedPairs_53 : decode cX1_crossedPairs 53 = .ok (.ireturn, 1) := by decide +kernel
theorem dX2_init_0 : decode cX2_init 0 = .ok (.aload_n 0, 1) := by decide +kernel
theorem dX2_init_1 : decode cX2_init 1 = .ok (.invokespecial 3, 3) := by decide +kernel
theorem dX2_init_4 : decode cX2_init 4 = .ok (.aload_n 0, 1) := by decide +kernel
theorem dX2_init_5 : decode cX2_init 5 = .ok (.new 9, 3) := by decide +kernel
theorem dX2_init_8 : decode cX2_init 8 = .ok (.dup, 1) := by decide +kernel
theorem dX2_init_9 : decode cX2_init 9 = .ok (.invokespecial 11, 3) := by decide +kernel
theorem dX2_init_12 : decode cX2_init 12 = .ok (.putfield 12, 3) := by decide +kernel
theorem dX2_init_15 : decode cX2_init 15 = .ok (.aload_n 0, 1) := by decide +kernel
theorem dX2_init_16 : decode cX2_init 16 = .ok (.new 18, 3) := by decide +kernel
theorem dX2_init_19 : decode cX2_init 19 = .ok (.dup, 1) := by decide +kernel
theorem dX2_init_20 : decode cX2_init 20 = .ok (.invokespecial 20, 3) := by decide +kernel
theorem dX2_init_23 : decode cX2_init 23 = .ok (.putfield 21, 3) := by decide +kernel
theorem dX2_init_26 : decode cX2_init 26 = .ok (.return_, 1) := by decide +kernel
theorem dX2_readWhole_0 : decode cX2_readWhole 0 = .ok (.aload_n 0, 1) := by decide +kernel
theorem dX2_readWhole_1 : decode cX2_readWhole 1 = .ok (.iconst 0, 1) := by decide +kernel
theorem dX2_readWhole_2 : decode cX2_readWhole 2 = .ok (.putfield 25, 3) := by decide +kernel
theorem dX2_readWhole_5 : decode cX2_readWhole 5 = .ok (.aload_n 0, 1) := by decide +kernel
theorem dX2_readWhole_6 : decode cX2_readWhole 6 = .ok (.iconst 0, 1) := by decide +kernel
theorem dX2_readWhole_7 : decode cX2_readWhole 7 = .ok (.putfield 29, 3) := by decide +kernel
theorem dX2_readWhole_10 : decode cX2_readWhole 10 = .ok (.aload_n 0, 1) := by decide +kernel
theorem dX2_readWhole_11 : decode cX2_readWhole 11 = .ok (.iconst 0, 1) := by decide +kernel
theorem dX2_readWhole_12 : decode cX2_readWhole 12 = .ok (.putfield 32, 3) := by decide +kernel
theorem dX2_readWhole_15 : decode cX2_readWhole 15 = .ok (.aload_n 0, 1) := by decide +kernel
theorem dX2_readWhole_16 : decode cX2_readWhole 16 = .ok (.iconst 0, 1) := by decide +kernel
theorem dX2_readWhole_17 : decode cX2_readWhole 17 = .ok (.putfield 35, 3) := by decide +kernel
theorem dX2_readWhole_20 : decode cX2_readWhole 20 = .ok (.aload_n 0, 1) := by decide +kernel
theorem dX2_readWhole_21 : decode cX2_readWhole 21 = .ok (.getfield 21, 3) := by decide +kernel
theorem dX2_readWhole_24 : decode cX2_readWhole 24 = .ok (.invokevirtual 39, 3) := by decide +kernel
theorem dX2_readWhole_27 : decode cX2_readWhole 27 = .ok (.aload_n 0, 1) := by decide +kernel
theorem dX2_readWhole_28 : decode cX2_readWhole 28 = .ok (.invokevirtual 42, 3) := by decide +kernel
theorem dX2_readWhole_31 : decode cX2_readWhole 31 = .ok (.iconst 0, 1) := by decide +kernel
theorem dX2_readWhole_32 : decode cX2_readWhole 32 = .ok (.istore_n 1, 1) := by decide +kernel
theorem dX2_readWhole_33 : decode cX2_readWhole 33 = .ok (.iload_n 1, 1) := by decide +kernel
theorem dX2_readWhole_34 : decode cX2_readWhole 34 = .ok (.aload_n 0, 1) := by decide +kernel
theorem dX2_readWhole_35 : decode cX2_readWhole 35 = .ok (.getfield 12, 3) := by decide +kernel
theorem dX2_readWhole_38 : decode cX2_readWhole 38 = .ok (.getfield 45, 3) := by decide +kernel
theorem dX2_readWhole_41 : decode cX2_readWhole 41 = .ok (.if_icmp .ge 28, 3) := by decide +kernel
theorem dX2_readWhole_44 : decode cX2_readWhole 44 = .ok (.aload_n 0, 1) := by decide +kernel
theorem dX2_readWhole_45 : decode cX2_readWhole 45 = .ok (.getfield 25, 3) := by decide +kernel
theorem dX2_readWhole_48 : decode cX2_readWhole 48 = .ok (.ifCond .ne 21, 3) := by decide +kernel
theorem dX2_readWhole_51 : decode cX2_readWhole 51 = .ok (.aload_n 0, 1) := by decide +kernel
theorem dX2_readWhole_52 : decode cX2_readWhole 52 = .ok (.getfield 48, 3) := by decide +kernel
theorem dX2_readWhole_55 : decode cX2_readWhole 55 = .ok (.iconst 3, 1) := by decide +kernel
theorem dX2_readWhole_56 : decode cX2_readWhole 56 = .ok (.if_icmp .eq 13, 3) := by decide +kernel
theorem dX2_readWhole_59 : decode cX2_readWhole 59 = .ok (.aload_n 0, 1) := by decide +kernel
theorem dX2_readWhole_60 : decode cX2_readWhole 60 = .ok (.invokevirtual 51, 3) := by decide +kernel
theorem dX2_readWhole_63 : decode cX2_readWhole 63 = .ok (.iinc 1 1, 3) := by decide +kernel
theorem dX2_readWhole_66 : decode cX2_readWhole 66 = .ok (.goto (-33), 3) := by decide +kernel
theorem dX2_readWhole_69 : decode cX2_readWhole 69 = .ok (.aload_n 0, 1) := by decide +kernel
theorem dX2_readWhole_70 : decode cX2_readWhole 70 = .ok (.getfield 21, 3) := by decide +kernel
theorem dX2_readWhole_73 : decode cX2_readWhole 73 = .ok (.invokevirtual 54, 3) := by decide +kernel
theorem dX2_readWhole_76 : decode cX2_readWhole 76 = .ok (.ifCond .eq 9, 3) := by decide +kernel
theorem dX2_readWhole_79 : decode cX2_readWhole 79 = .ok (.aload_n 0, 1) := by decide +kernel
theorem dX2_readWhole_80 : decode cX2_readWhole 80 = .ok (.bipush 6, 2) := by decide +kernel
theorem dX2_readWhole_82 : decode cX2_readWhole 82 = .ok (.invokevirtual 58, 3) := by decide +kernel
theorem dX2_readWhole_85 : decode cX2_readWhole 85 = .ok (.iload_n 1, 1) := by decide +kernel
theorem dX2_readWhole_86 : decode cX2_readWhole 86 = .ok (.ireturn, 1) := by decide +kernel
theorem dX2_fail_0 : decode cX2_fail 0 = .ok (.aload_n 0, 1) := by decide +kernel
theorem dX2_fail_1 : decode cX2_fail 1 = .ok (.getfield 25, 3) := by decide +kernel
theorem dX2_fail_4 : decode cX2_fail 4 = .ok (.ifCond .ne 16, 3) := by decide +kernel
theorem dX2_fail_7 : decode cX2_fail 7 = .ok (.aload_n 0, 1) := by decide +kernel
theorem dX2_fail_8 : decode cX2_fail 8 = .ok (.iload_n 1, 1) := by decide +kernel
theorem dX2_fail_9 : decode cX2_fail 9 = .ok (.putfield 25, 3) := by decide +kernel
theorem dX2_fail_12 : decode cX2_fail 12 = .ok (.aload_n 0, 1) := by decide +kernel
theorem dX2_fail_13 : decode cX2_fail 13 = .ok (.aload_n 0, 1) := by decide +kernel
theorem dX2_fail_14 : decode cX2_fail 14 = .ok (.getfield 62, 3) := by decide +kernel
theorem dX2_fail_17 : decode cX2_fail 17 = .ok (.putfield 29, 3) := by decide +kernel
theorem dX2_fail_20 : decode cX2_fail 20 = .ok (.return_, 1) := by decide +kernel
theorem dX2_readLine_0 : decode cX2_readLine 0 = .ok (.aload_n 0, 1) := by decide +kernel
theorem dX2_readLine_1 : decode cX2_readLine 1 = .ok (.getfield 48, 3) := by decide +kernel
theorem dX2_readLine_4 : decode cX2_readLine 4 = .ok (.ifCond .eq 11, 3) := by decide +kernel
theorem dX2_readLine_7 : decode cX2_readLine 7 = .ok (.aload_n 0, 1) := by decide +kernel
theorem dX2_readLine_8 : decode cX2_readLine 8 = .ok (.iconst 2, 1) := by decide +kernel
theorem dX2_readLine_9 : decode cX2_readLine 9 = .ok (.invokevirtual 58, 3) := by decide +kernel
theorem dX2_readLine_12 : decode cX2_readLine 12 = .ok (.goto 124, 3) := by decide +kernel
theorem dX2_readLine_15 : decode cX2_readLine 15 = .ok (.aload_n 0, 1) := by decide +kernel
theorem dX2_readLine_16 : decode cX2_readLine 16 = .ok (.ldc 65, 2) := by decide +kernel
theorem dX2_readLine_18 : decode cX2_readLine 18 = .ok (.invokevirtual 67, 3) := by decide +kernel
theorem dX2_readLine_21 : decode cX2_readLine 21 = .ok (.ifCond .eq 11, 3) := by decide +kernel
theorem dX2_readLine_24 : decode cX2_readLine 24 = .ok (.aload_n 0, 1) := by decide +kernel
theorem dX2_readLine_25 : decode cX2_readLine 25 = .ok (.iconst 0, 1) := by decide +kernel
theorem dX2_readLine_26 : decode cX2_readLine 26 = .ok (.invokevirtual 71, 3) := by decide +kernel
theorem dX2_readLine_29 : decode cX2_readLine 29 = .ok (.goto 107, 3) := by decide +kernel
theorem dX2_readLine_32 : decode cX2_readLine 32 = .ok (.aload_n 0, 1) := by decide +kernel
theorem dX2_readLine_33 : decode cX2_readLine 33 = .ok (.ldc 74, 2) := by decide +kernel
theorem dX2_readLine_35 : decode cX2_readLine 35 = .ok (.invokevirtual 67, 3) := by decide +kernel
theorem dX2_readLine_38 : decode cX2_readLine 38 = .ok (.ifCond .eq 11, 3) := by decide +kernel
theorem dX2_readLine_41 : decode cX2_readLine 41 = .ok (.aload_n 0, 1) := by decide +kernel
theorem dX2_readLine_42 : decode cX2_readLine 42 = .ok (.iconst 1, 1) := by decide +kernel
theorem dX2_readLine_43 : decode cX2_readLine 43 = .ok (.invokevirtual 71, 3) := by decide +kernel
theorem dX2_readLine_46 : decode cX2_readLine 46 = .ok (.goto 90, 3) := by decide +kernel
theorem dX2_readLine_49 : decode cX2_readLine 49 = .ok (.aload_n 0, 1) := by decide +kernel
theorem dX2_readLine_50 : decode cX2_readLine 50 = .ok (.ldc 76, 2) := by decide +kernel
theorem dX2_readLine_52 : decode cX2_readLine 52 = .ok (.invokevirtual 67, 3) := by decide +kernel
theorem dX2_readLine_55 : decode cX2_readLine 55 = .ok (.ifCond .eq 11, 3) := by decide +kernel
theorem dX2_readLine_58 : decode cX2_readLine 58 = .ok (.aload_n 0, 1) := by decide +kernel
theorem dX2_readLine_59 : decode cX2_readLine 59 = .ok (.iconst 2, 1) := by decide +kernel
theorem dX2_readLine_60 : decode cX2_readLine 60 = .ok (.invokevirtual 71, 3) := by decide +kernel
theorem dX2_readLine_63 : decode cX2_readLine 63 = .ok (.goto 73, 3) := by decide +kernel
theorem dX2_readLine_66 : decode cX2_readLine 66 = .ok (.aload_n 0, 1) := by decide +kernel
theorem dX2_readLine_67 : decode cX2_readLine 67 = .ok (.ldc 78, 2) := by decide +kernel
theorem dX2_readLine_69 : decode cX2_readLine 69 = .ok (.invokevirtual 67, 3) := by decide +kernel
theorem dX2_readLine_72 : decode cX2_readLine 72 = .ok (.ifCond .eq 11, 3) := by decide +kernel
theorem dX2_readLine_75 : decode cX2_readLine 75 = .ok (.aload_n 0, 1) := by decide +kernel
theorem dX2_readLine_76 : decode cX2_readLine 76 = .ok (.iconst 3, 1) := by decide +kernel
theorem dX2_readLine_77 : decode cX2_readLine 77 = .ok (.invokevirtual 71, 3) := by decide +kernel
theorem dX2_readLine_80 : decode cX2_readLine 80 = .ok (.goto 56, 3) := by decide +kernel
theorem dX2_readLine_83 : decode cX2_readLine 83 = .ok (.aload_n 0, 1) := by decide +kernel
theorem dX2_readLine_84 : decode cX2_readLine 84 = .ok (.ldc 80, 2) := by decide +kernel
theorem dX2_readLine_86 : decode cX2_readLine 86 = .ok (.invokevirtual 67, 3) := by decide +kernel
theorem dX2_readLine_89 : decode cX2_readLine 89 = .ok (.ifCond .eq 10, 3) := by decide +kernel
theorem dX2_readLine_92 : decode cX2_readLine 92 = .ok (.aload_n 0, 1) := by decide +kernel
theorem dX2_readLine_93 : decode cX2_readLine 93 = .ok (.invokevirtual 82, 3) := by decide +kernel
theorem dX2_readLine_96 : decode cX2_readLine 96 = .ok (.goto 40, 3) := by decide +kernel
theorem dX2_readLine_99 : decode cX2_readLine 99 = .ok (.aload_n 0, 1) := by decide +kernel
theorem dX2_readLine_100 : decode cX2_readLine 100 = .ok (.ldc 85, 2) := by decide +kernel
theorem dX2_readLine_102 : decode cX2_readLine 102 = .ok (.invokevirtual 67, 3) := by decide +kernel
theorem dX2_readLine_105 : decode cX2_readLine 105 = .ok (.ifCond .eq 10, 3) := by decide +kernel
theorem dX2_readLine_108 : decode cX2_readLine 108 = .ok (.aload_n 0, 1) := by decide +kernel
theorem dX2_readLine_109 : decode cX2_readLine 109 = .ok (.invokevirtual 87, 3) := by decide +kernel
theorem dX2_readLine_112 : decode cX2_readLine 112 = .ok (.goto 24, 3) := by decide +kernel
theorem dX2_readLine_115 : decode cX2_readLine 115 = .ok (.aload_n 0, 1) := by decide +kernel
theorem dX2_readLine_116 : decode cX2_readLine 116 = .ok (.ldc 90, 2) := by decide +kernel
theorem dX2_readLine_118 : decode cX2_readLine 118 = .ok (.invokevirtual 67, 3) := by decide +kernel
theorem dX2_readLine_121 : decode cX2_readLine 121 = .ok (.ifCond .eq 10, 3) := by decide +kernel
theorem dX2_readLine_124 : decode cX2_readLine 124 = .ok (.aload_n 0, 1) := by decide +kernel
theorem dX2_readLine_125 : decode cX2_readLine 125 = .ok (.invokevirtual 92, 3) := by decide +kernel
theorem dX2_readLine_128 : decode cX2_readLine 128 = .ok (.goto 8, 3) := by decide +kernel
theorem dX2_readLine_131 : decode cX2_readLine 131 = .ok (.aload_n 0, 1) := by decide +kernel
theorem dX2_readLine_132 : decode cX2_readLine 132 = .ok (.iconst 2, 1) := by decide +kernel
theorem dX2_readLine_133 : decode cX2_readLine 133 = .ok (.invokevirtual 58, 3) := by decide +kernel
theorem dX2_readLine_136 : decode cX2_readLine 136 = .ok (.return_, 1) := by decide +kernel
theorem dX2_readTree_0 : decode cX2_readTree 0 = .ok (.aload_n 0, 1) := by decide +kernel
theorem dX2_readTree_1 : decode cX2_readTree 1 = .ok (.aload_n 0, 1) := by decide +kernel
theorem dX2_readTree_2 : decode cX2_readTree 2 = .ok (.getfield 21, 3) := by decide +kernel
theorem dX2_readTree_5 : decode cX2_readTree 5 = .ok (.getfield 95, 3) := by decide +kernel
theorem dX2_readTree_8 : decode cX2_readTree 8 = .ok (.bipush 6, 2) := by decide +kernel
theorem dX2_readTree_10 : decode cX2_readTree 10 = .ok (.if_icmp .ge 7, 3) := by decide +kernel
theorem dX2_readTree_13 : decode cX2_readTree 13 = .ok (.iconst 1, 1) := by decide +kernel
theorem dX2_readTree_14 : decode cX2_readTree 14 = .ok (.goto 4, 3) := by decide +kernel
theorem dX2_readTree_17 : decode cX2_readTree 17 = .ok (.iconst 0, 1) := by decide +kernel
theorem dX2_readTree_18 : decode cX2_readTree 18 = .ok (.iconst 5, 1) := by decide +kernel
theorem dX2_readTree_19 : decode cX2_readTree 19 = .ok (.invokevirtual 98, 3) := by decide +kernel
theorem dX2_readTree_22 : decode cX2_readTree 22 = .ok (.aload_n 0, 1) := by decide +kernel
theorem dX2_readTree_23 : decode cX2_readTree 23 = .ok (.invokevirtual 102, 3) := by decide +kernel
theorem dX2_readTree_26 : decode cX2_readTree 26 = .ok (.aload_n 0, 1) := by decide +kernel
theorem dX2_readTree_27 : decode cX2_readTree 27 = .ok (.getfield 25, 3) := by decide +kernel
theorem dX2_readTree_30 : decode cX2_readTree 30 = .ok (.ifCond .ne 12, 3) := by decide +kernel
theorem dX2_readTree_33 : decode cX2_readTree 33 = .ok (.aload_n 0, 1) := by decide +kernel
theorem dX2_readTree_34 : decode cX2_readTree 34 = .ok (.getfield 21, 3) := by decide +kernel
theorem dX2_readTree_37 : decode cX2_readTree 37 = .ok (.iload_n 1, 1) := by decide +kernel
theorem dX2_readTree_38 : decode cX2_readTree 38 = .ok (.invokevirtual 105, 3) := by decide +kernel
theorem dX2_readTree_41 : decode cX2_readTree 41 = .ok (.pop, 1) := by decide +kernel
theorem dX2_readTree_42 : decode cX2_readTree 42 = .ok (.return_, 1) := by decide +kernel
theorem dX2_readRoot_0 : decode cX2_readRoot 0 = .ok (.aload_n 0, 1) := by decide +kernel
theorem dX2_readRoot_1 : decode cX2_readRoot 1 = .ok (.aload_n 0, 1) := by decide +kernel
theorem dX2_readRoot_2 : decode cX2_readRoot 2 = .ok (.getfield 21, 3) := by decide +kernel
theorem dX2_readRoot_5 : decode cX2_readRoot 5 = .ok (.getfield 109, 3) := by decide +kernel
theorem dX2_readRoot_8 : decode cX2_readRoot 8 = .ok (.bipush 9, 2) := by decide +kernel
theorem dX2_readRoot_10 : decode cX2_readRoot 10 = .ok (.if_icmp .ge 7, 3) := by decide +kernel
theorem dX2_readRoot_13 : decode cX2_readRoot 13 = .ok (.iconst 1, 1) := by decide +kernel
theorem dX2_readRoot_14 : decode cX2_readRoot 14 = .ok (.goto 4, 3) := by decide +kernel
theorem dX2_readRoot_17 : decode cX2_readRoot 17 = .ok (.iconst 0, 1) := by decide +kernel
theorem dX2_readRoot_18 : decode cX2_readRoot 18 = .ok (.iconst 5, 1) := by decide +kernel
theorem dX2_readRoot_19 : decode cX2_readRoot 19 = .ok (.invokevirtual 98, 3) := by decide +kernel
theorem dX2_readRoot_22 : decode cX2_readRoot 22 = .ok (.aload_n 0, 1) := by decide +kernel
theorem dX2_readRoot_23 : decode cX2_readRoot 23 = .ok (.iconst 0, 1) := by decide +kernel
theorem dX2_readRoot_24 : decode cX2_readRoot 24 = .ok (.iconst 5, 1) := by decide +kernel
theorem dX2_readRoot_25 : decode cX2_readRoot 25 = .ok (.iconst (-1), 1) := by decide +kernel
theorem dX2_readRoot_26 : decode cX2_readRoot 26 = .ok (.invokevirtual 112, 3) := by decide +kernel
theorem dX2_readRoot_29 : decode cX2_readRoot 29 = .ok (.istore_n 1, 1) := by decide +kernel
theorem dX2_readRoot_30 : decode cX2_readRoot 30 = .ok (.aload_n 0, 1) := by decide +kernel
theorem dX2_readRoot_31 : decode cX2_readRoot 31 = .ok (.iconst 0, 1) := by decide +kernel
theorem dX2_readRoot_32 : decode cX2_readRoot 32 = .ok (.iconst 5, 1) := by decide +kernel
theorem dX2_readRoot_33 : decode cX2_readRoot 33 = .ok (.iload_n 1, 1) := by decide +kernel
theorem dX2_readRoot_34 : decode cX2_readRoot 34 = .ok (.invokevirtual 112, 3) := by decide +kernel
theorem dX2_readRoot_37 : decode cX2_readRoot 37 = .ok (.istore_n 2, 1) := by decide +kernel
theorem dX2_readRoot_38 : decode cX2_readRoot 38 = .ok (.aload_n 0, 1) := by decide +kernel
theorem dX2_readRoot_39 : decode cX2_readRoot 39 = .ok (.iconst 1, 1) := by decide +kernel
theorem dX2_readRoot_40 : decode cX2_readRoot 40 = .ok (.bipush 9, 2) := by decide +kernel
theorem dX2_readRoot_42 : decode cX2_readRoot 42 = .ok (.iconst (-1), 1) := by decide +kernel
theorem dX2_readRoot_43 : decode cX2_readRoot 43 = .ok (.invokevirtual 112, 3) := by decide +kernel
theorem dX2_readRoot_46 : decode cX2_readRoot 46 = .ok (.istore_n 3, 1) := by decide +kernel
theorem dX2_readRoot_47 : decode cX2_readRoot 47 = .ok (.aload_n 0, 1) := by decide +kernel
theorem dX2_readRoot_48 : decode cX2_readRoot 48 = .ok (.invokevirtual 102, 3) := by decide +kernel
theorem dX2_readRoot_51 : decode cX2_readRoot 51 = .ok (.aload_n 0, 1) := by decide +kernel
theorem dX2_readRoot_52 : decode cX2_readRoot 52 = .ok (.getfield 25, 3) := by decide +kernel
theorem dX2_readRoot_55 : decode cX2_readRoot 55 = .ok (.ifCond .ne 14, 3) := by decide +kernel
theorem dX2_readRoot_58 : decode cX2_readRoot 58 = .ok (.aload_n 0, 1) := by decide +kernel
theorem dX2_readRoot_59 : decode cX2_readRoot 59 = .ok (.getfield 21, 3) := by decide +kernel
theorem dX2_readRoot_62 : decode cX2_readRoot 62 = .ok (.iload_n 1, 1) := by decide +kernel
theorem dX2_readRoot_63 : decode cX2_readRoot 63 = .ok (.iload_n 2, 1) := by decide +kernel
theorem dX2_readRoot_64 : decode cX2_readRoot 64 = .ok (.iload_n 3, 1) := by decide +kernel
theorem dX2_readRoot_65 : decode cX2_readRoot 65 = .ok (.invokevirtual 116, 3) := by decide +kernel
theorem dX2_readRoot_68 : decode cX2_readRoot 68 = .ok (.pop, 1) := by decide +kernel
theorem dX2_readRoot_69 : decode cX2_readRoot 69 = .ok (.return_, 1) := by decide +kernel
theorem dX2_readWind_0 : decode cX2_readWind 0 = .ok (.aload_n 0, 1) := by decide +kernel
theorem dX2_readWind_1 : decode cX2_readWind 1 = .ok (.aload_n 0, 1) := by decide +kernel
theorem dX2_readWind_2 : decode cX2_readWind 2 = .ok (.getfield 35, 3) := by decide +kernel
theorem dX2_readWind_5 : decode cX2_readWind 5 = .ok (.ifCond .ne 7, 3) := by decide +kernel
theorem dX2_readWind_8 : decode cX2_readWind 8 = .ok (.iconst 1, 1) := by decide +kernel
theorem dX2_readWind_9 : decode cX2_readWind 9 = .ok (.goto 4, 3) := by decide +kernel
theorem dX2_readWind_12 : decode cX2_readWind 12 = .ok (.iconst 0, 1) := by decide +kernel
theorem dX2_readWind_13 : decode cX2_readWind 13 = .ok (.iconst 4, 1) := by decide +kernel
theorem dX2_readWind_14 : decode cX2_readWind 14 = .ok (.invokevirtual 98, 3) := by decide +kernel
theorem dX2_readWind_17 : decode cX2_readWind 17 = .ok (.aload_n 0, 1) := by decide +kernel
theorem dX2_readWind_18 : decode cX2_readWind 18 = .ok (.getfield 21, 3) := by decide +kernel
theorem dX2_readWind_21 : decode cX2_readWind 21 = .ok (.aload_n 0, 1) := by decide +kernel
theorem dX2_readWind_22 : decode cX2_readWind 22 = .ok (.iconst 0, 1) := by decide +kernel
theorem dX2_readWind_23 : decode cX2_readWind 23 = .ok (.bipush 20, 2) := by decide +kernel
theorem dX2_readWind_25 : decode cX2_readWind 25 = .ok (.iconst (-1), 1) := by decide +kernel
theorem dX2_readWind_26 : decode cX2_readWind 26 = .ok (.invokevirtual 112, 3) := by decide +kernel
theorem dX2_readWind_29 : decode cX2_readWind 29 = .ok (.putfield 119, 3) := by decide +kernel
theorem dX2_readWind_32 : decode cX2_readWind 32 = .ok (.aload_n 0, 1) := by decide +kernel
theorem dX2_readWind_33 : decode cX2_readWind 33 = .ok (.iconst 1, 1) := by decide +kernel
theorem dX2_readWind_34 : decode cX2_readWind 34 = .ok (.putfield 35, 3) := by decide +kernel
theorem dX2_readWind_37 : decode cX2_readWind 37 = .ok (.aload_n 0, 1) := by decide +kernel
theorem dX2_readWind_38 : decode cX2_readWind 38 = .ok (.invokevirtual 102, 3) := by decide +kernel
theorem dX2_readWind_41 : decode cX2_readWind 41 = .ok (.return_, 1) := by decide +kernel
theorem dX2_readTalk_0 : decode cX2_readTalk 0 = .ok (.aload_n 0, 1) := by decide +kernel
theorem dX2_readTalk_1 : decode cX2_readTalk 1 = .ok (.aload_n 0, 1) := by decide +kernel
theorem dX2_readTalk_2 : decode cX2_readTalk 2 = .ok (.getfield 21, 3) := by decide +kernel
theorem dX2_readTalk_5 : decode cX2_readTalk 5 = .ok (.getfield 122, 3) := by decide +kernel
theorem dX2_readTalk_8 : decode cX2_readTalk 8 = .ok (.bipush 6, 2) := by decide +kernel
theorem dX2_readTalk_10 : decode cX2_readTalk 10 = .ok (.if_icmp .ge 7, 3) := by decide +kernel
theorem dX2_readTalk_13 : decode cX2_readTalk 13 = .ok (.iconst 1, 1) := by decide +kernel
theorem dX2_readTalk_14 : decode cX2_readTalk 14 = .ok (.goto 4, 3) := by decide +kernel
theorem dX2_readTalk_17 : decode cX2_readTalk 17 = .ok (.iconst 0, 1) := by decide +kernel
theorem dX2_readTalk_18 : decode cX2_readTalk 18 = .ok (.iconst 5, 1) := by decide +kernel
theorem dX2_readTalk_19 : decode cX2_readTalk 19 = .ok (.invokevirtual 98, 3) := by decide +kernel
theorem dX2_readTalk_22 : decode cX2_readTalk 22 = .ok (.aload_n 0, 1) := by decide +kernel
theorem dX2_readTalk_23 : decode cX2_readTalk 23 = .ok (.iconst 0, 1) := by decide +kernel
theorem dX2_readTalk_24 : decode cX2_readTalk 24 = .ok (.bipush 23, 2) := by decide +kernel
theorem dX2_readTalk_26 : decode cX2_readTalk 26 = .ok (.iconst (-1), 1) := by decide +kernel
theorem dX2_readTalk_27 : decode cX2_readTalk 27 = .ok (.invokevirtual 112, 3) := by decide +kernel
theorem dX2_readTalk_30 : decode cX2_readTalk 30 = .ok (.istore_n 1, 1) := by decide +kernel
theorem dX2_readTalk_31 : decode cX2_readTalk 31 = .ok (.aload_n 0, 1) := by decide +kernel
theorem dX2_readTalk_32 : decode cX2_readTalk 32 = .ok (.iconst 0, 1) := by decide +kernel
theorem dX2_readTalk_33 : decode cX2_readTalk 33 = .ok (.iconst 5, 1) := by decide +kernel
theorem dX2_readTalk_34 : decode cX2_readTalk 34 = .ok (.iconst (-1), 1) := by decide +kernel
theorem dX2_readTalk_35 : decode cX2_readTalk 35 = .ok (.invokevirtual 112, 3) := by decide +kernel
theorem dX2_readTalk_38 : decode cX2_readTalk 38 = .ok (.istore_n 2, 1) := by decide +kernel
theorem dX2_readTalk_39 : decode cX2_readTalk 39 = .ok (.aload_n 0, 1) := by decide +kernel
theorem dX2_readTalk_40 : decode cX2_readTalk 40 = .ok (.iconst 1, 1) := by decide +kernel
theorem dX2_readTalk_41 : decode cX2_readTalk 41 = .ok (.bipush 60, 2) := by decide +kernel
theorem dX2_readTalk_43 : decode cX2_readTalk 43 = .ok (.iconst (-1), 1) := by decide +kernel
theorem dX2_readTalk_44 : decode cX2_readTalk 44 = .ok (.invokevirtual 112, 3) := by decide +kernel
theorem dX2_readTalk_47 : decode cX2_readTalk 47 = .ok (.istore_n 3, 1) := by decide +kernel
theorem dX2_readTalk_48 : decode cX2_readTalk 48 = .ok (.aload_n 0, 1) := by decide +kernel
theorem dX2_readTalk_49 : decode cX2_readTalk 49 = .ok (.invokevirtual 102, 3) := by decide +kernel
theorem dX2_readTalk_52 : decode cX2_readTalk 52 = .ok (.aload_n 0, 1) := by decide +kernel
theorem dX2_readTalk_53 : decode cX2_readTalk 53 = .ok (.getfield 25, 3) := by decide +kernel
theorem dX2_readTalk_56 : decode cX2_readTalk 56 = .ok (.ifCond .ne 14, 3) := by decide +kernel
theorem dX2_readTalk_59 : decode cX2_readTalk 59 = .ok (.aload_n 0, 1) := by decide +kernel
theorem dX2_readTalk_60 : decode cX2_readTalk 60 = .ok (.getfield 21, 3) := by decide +kernel
theorem dX2_readTalk_63 : decode cX2_readTalk 63 = .ok (.iload_n 1, 1) := by decide +kernel
theorem dX2_readTalk_64 : decode cX2_readTalk 64 = .ok (.iload_n 2, 1) := by decide +kernel
theorem dX2_readTalk_65 : decode cX2_readTalk 65 = .ok (.iload_n 3, 1) := by decide +kernel
theorem dX2_readTalk_66 : decode cX2_readTalk 66 = .ok (.invokevirtual 125, 3) := by decide +kernel
theorem dX2_readTalk_69 : decode cX2_readTalk 69 = .ok (.pop, 1) := by decide +kernel
theorem dX2_readTalk_70 : decode cX2_readTalk 70 = .ok (.return_, 1) := by decide +kernel
theorem dX2_takeName_0 : decode cX2_takeName 0 = .ok (.iload_n 1, 1) := by decide +kernel
theorem dX2_takeName_1 : decode cX2_takeName 1 = .ok (.ifCond .ne 8, 3) := by decide +kernel
theorem dX2_takeName_4 : decode cX2_takeName 4 = .ok (.aload_n 0, 1) := by decide +kernel
theorem dX2_takeName_5 : decode cX2_takeName 5 = .ok (.iload_n 2, 1) := by decide +kernel
theorem dX2_takeName_6 : decode cX2_takeName 6 = .ok (.invokevirtual 58, 3) := by decide +kernel
theorem dX2_takeName_9 : decode cX2_takeName 9 = .ok (.aload_n 0, 1) := by decide +kernel
theorem dX2_takeName_10 : decode cX2_takeName 10 = .ok (.invokevirtual 42, 3) := by decide +kernel
theorem dX2_takeName_13 : decode cX2_takeName 13 = .ok (.return_, 1) := by decide +kernel
theorem dX2_takeSign_0 : decode cX2_takeSign 0 = .ok (.aload_n 0, 1) := by decide +kernel
theorem dX2_takeSign_1 : decode cX2_takeSign 1 = .ok (.getfield 48, 3) := by decide +kernel
theorem dX2_takeSign_4 : decode cX2_takeSign 4 = .ok (.iconst 2, 1) := by decide +kernel
theorem dX2_takeSign_5 : decode cX2_takeSign 5 = .ok (.if_icmp .eq 8, 3) := by decide +kernel
theorem dX2_takeSign_8 : decode cX2_takeSign 8 = .ok (.aload_n 0, 1) := by decide +kernel
theorem dX2_takeSign_9 : decode cX2_takeSign 9 = .ok (.iconst 2, 1) := by decide +kernel
theorem dX2_takeSign_10 : decode cX2_takeSign 10 = .ok (.invokevirtual 58, 3) := by decide +kernel
theorem dX2_takeSign_13 : decode cX2_takeSign 13 = .ok (.aload_n 0, 1) := by decide +kernel
theorem dX2_takeSign_14 : decode cX2_takeSign 14 = .ok (.invokevirtual 42, 3) := by decide +kernel
theorem dX2_takeSign_17 : decode cX2_takeSign 17 = .ok (.return_, 1) := by decide +kernel
theorem dX2_takeNumber_0 : decode cX2_takeNumber 0 = .ok (.aload_n 0, 1) := by decide +kernel
theorem dX2_takeNumber_1 : decode cX2_takeNumber 1 = .ok (.getfield 48, 3) := by decide +kernel
theorem dX2_takeNumber_4 : decode cX2_takeNumber 4 = .ok (.iconst 1, 1) := by decide +kernel
theorem dX2_takeNumber_5 : decode cX2_takeNumber 5 = .ok (.if_icmp .ne 10, 3) := by decide +kernel
theorem dX2_takeNumber_8 : decode cX2_takeNumber 8 = .ok (.aload_n 0, 1) := by decide +kernel
theorem dX2_takeNumber_9 : decode cX2_takeNumber 9 = .ok (.invokevirtual 128, 3) := by decide +kernel
theorem dX2_takeNumber_12 : decode cX2_takeNumber 12 = .ok (.goto 4, 3) := by decide +kernel
theorem dX2_takeNumber_15 : decode cX2_takeNumber 15 = .ok (.iconst (-1), 1) := by decide +kernel
theorem dX2_takeNumber_16 : decode cX2_takeNumber 16 = .ok (.istore 4, 2) := by decide +kernel
theorem dX2_takeNumber_18 : decode cX2_takeNumber 18 = .ok (.iload 4, 2) := by decide +kernel
theorem dX2_takeNumber_20 : decode cX2_takeNumber 20 = .ok (.iconst (-1), 1) := by decide +kernel
theorem dX2_takeNumber_21 : decode cX2_takeNumber 21 = .ok (.if_icmp .ne 11, 3) := by decide +kernel
theorem dX2_takeNumber_24 : decode cX2_takeNumber 24 = .ok (.aload_n 0, 1) := by decide +kernel
theorem dX2_takeNumber_25 : decode cX2_takeNumber 25 = .ok (.iconst 2, 1) := by decide +kernel
theorem dX2_takeNumber_26 : decode cX2_takeNumber 26 = .ok (.invokevirtual 58, 3) := by decide +kernel
theorem dX2_takeNumber_29 : decode cX2_takeNumber 29 = .ok (.goto 24, 3) := by decide +kernel
theorem dX2_takeNumber_32 : decode cX2_takeNumber 32 = .ok (.iload 4, 2) := by decide +kernel
theorem dX2_takeNumber_34 : decode cX2_takeNumber 34 = .ok (.iload_n 1, 1) := by decide +kernel
theorem dX2_takeNumber_35 : decode cX2_takeNumber 35 = .ok (.iload_n 2, 1) := by decide +kernel
theorem dX2_takeNumber_36 : decode cX2_takeNumber 36 = .ok (.invokestatic 132, 3) := by decide +kernel
theorem dX2_takeNumber_39 : decode cX2_takeNumber 39 = .ok (.ifCond .eq 9, 3) := by decide +kernel
theorem dX2_takeNumber_42 : decode cX2_takeNumber 42 = .ok (.iload 4, 2) := by decide +kernel
theorem dX2_takeNumber_44 : decode cX2_takeNumber 44 = .ok (.iload_n 3, 1) := by decide +kernel
theorem dX2_takeNumber_45 : decode cX2_takeNumber 45 = .ok (.if_icmp .ne 8, 3) := by decide +kernel
theorem dX2_takeNumber_48 : decode cX2_takeNumber 48 = .ok (.aload_n 0, 1) := by decide +kernel
theorem dX2_takeNumber_49 : decode cX2_takeNumber 49 = .ok (.iconst 3, 1) := by decide +kernel
theorem dX2_takeNumber_50 : decode cX2_takeNumber 50 = .ok (.invokevirtual 58, 3) := by decide +kernel
theorem dX2_takeNumber_53 : decode cX2_takeNumber 53 = .ok (.aload_n 0, 1) := by decide +kernel
theorem dX2_takeNumber_54 : decode cX2_takeNumber 54 = .ok (.invokevirtual 42, 3) := by decide +kernel
theorem dX2_takeNumber_57 : decode cX2_takeNumber 57 = .ok (.iload 4, 2) := by decide +kernel
theorem dX2_takeNumber_59 : decode cX2_takeNumber 59 = .ok (.ireturn, 1) := by decide +kernel
theorem dX2_readToken_0 : decode cX2_readToken 0 = .ok (.aload_n 0, 1) := by decide +kernel
theorem dX2_readToken_1 : decode cX2_readToken 1 = .ok (.getfield 25, 3) := by decide +kernel
theorem dX2_readToken_4 : decode cX2_readToken 4 = .ok (.ifCond .eq 4, 3) := by decide +kernel
theorem dX2_readToken_7 : decode cX2_readToken 7 = .ok (.return_, 1) := by decide +kernel
theorem dX2_readToken_8 : decode cX2_readToken 8 = .ok (.aload_n 0, 1) := by decide +kernel
theorem dX2_readToken_9 : decode cX2_readToken 9 = .ok (.aload_n 0, 1) := by decide +kernel
theorem dX2_readToken_10 : decode cX2_readToken 10 = .ok (.aload_n 0, 1) := by decide +kernel
theorem dX2_readToken_11 : decode cX2_readToken 11 = .ok (.getfield 32, 3) := by decide +kernel
theorem dX2_readToken_14 : decode cX2_readToken 14 = .ok (.bipush 32, 2) := by decide +kernel
theorem dX2_readToken_16 : decode cX2_readToken 16 = .ok (.bipush 32, 2) := by decide +kernel
theorem dX2_readToken_18 : decode cX2_readToken 18 = .ok (.invokevirtual 136, 3) := by decide +kernel
theorem dX2_readToken_21 : decode cX2_readToken 21 = .ok (.putfield 62, 3) := by decide +kernel
theorem dX2_readToken_24 : decode cX2_readToken 24 = .ok (.aload_n 0, 1) := by decide +kernel
theorem dX2_readToken_25 : decode cX2_readToken 25 = .ok (.aload_n 0, 1) := by decide +kernel
theorem dX2_readToken_26 : decode cX2_readToken 26 = .ok (.getfield 62, 3) := by decide +kernel
theorem dX2_readToken_29 : decode cX2_readToken 29 = .ok (.bipush 97, 2) := by decide +kernel
theorem dX2_readToken_31 : decode cX2_readToken 31 = .ok (.bipush 122, 2) := by decide +kernel
theorem dX2_readToken_33 : decode cX2_readToken 33 = .ok (.invokevirtual 136, 3) := by decide +kernel
theorem dX2_readToken_36 : decode cX2_readToken 36 = .ok (.istore_n 1, 1) := by decide +kernel
theorem dX2_readToken_37 : decode cX2_readToken 37 = .ok (.aload_n 0, 1) := by decide +kernel
theorem dX2_readToken_38 : decode cX2_readToken 38 = .ok (.aload_n 0, 1) := by decide +kernel
theorem dX2_readToken_39 : decode cX2_readToken 39 = .ok (.getfield 62, 3) := by decide +kernel
theorem dX2_readToken_42 : decode cX2_readToken 42 = .ok (.bipush 48, 2) := by decide +kernel
theorem dX2_readToken_44 : decode cX2_readToken 44 = .ok (.bipush 57, 2) := by decide +kernel
theorem dX2_readToken_46 : decode cX2_readToken 46 = .ok (.invokevirtual 136, 3) := by decide +kernel
theorem dX2_readToken_49 : decode cX2_readToken 49 = .ok (.istore_n 2, 1) := by decide +kernel
theorem dX2_readToken_50 : decode cX2_readToken 50 = .ok (.aload_n 0, 1) := by decide +kernel
theorem dX2_readToken_51 : decode cX2_readToken 51 = .ok (.getfield 62, 3) := by decide +kernel
theorem dX2_readToken_54 : decode cX2_readToken 54 = .ok (.aload_n 0, 1) := by decide +kernel
theorem dX2_readToken_55 : decode cX2_readToken 55 = .ok (.getfield 12, 3) := by decide +kernel
theorem dX2_readToken_58 : decode cX2_readToken 58 = .ok (.getfield 45, 3) := by decide +kernel
theorem dX2_readToken_61 : decode cX2_readToken 61 = .ok (.if_icmp .lt 15, 3) := by decide +kernel
theorem dX2_readToken_64 : decode cX2_readToken 64 = .ok (.aload_n 0, 1) := by decide +kernel
theorem dX2_readToken_65 : decode cX2_readToken 65 = .ok (.iconst 3, 1) := by decide +kernel
theorem dX2_readToken_66 : decode cX2_readToken 66 = .ok (.aload_n 0, 1) := by decide +kernel
theorem dX2_readToken_67 : decode cX2_readToken 67 = .ok (.getfield 62, 3) := by decide +kernel
theorem dX2_readToken_70 : decode cX2_readToken 70 = .ok (.invokevirtual 139, 3) := by decide +kernel
theorem dX2_readToken_73 : decode cX2_readToken 73 = .ok (.goto 91, 3) := by decide +kernel
theorem dX2_readToken_76 : decode cX2_readToken 76 = .ok (.iload_n 1, 1) := by decide +kernel
theorem dX2_readToken_77 : decode cX2_readToken 77 = .ok (.aload_n 0, 1) := by decide +kernel
theorem dX2_readToken_78 : decode cX2_readToken 78 = .ok (.getfield 62, 3) := by decide +kernel
theorem dX2_readToken_81 : decode cX2_readToken 81 = .ok (.if_icmp .le 12, 3) := by decide +kernel
theorem dX2_readToken_84 : decode cX2_readToken 84 = .ok (.aload_n 0, 1) := by decide +kernel
theorem dX2_readToken_85 : decode cX2_readToken 85 = .ok (.iconst 0, 1) := by decide +kernel
theorem dX2_readToken_86 : decode cX2_readToken 86 = .ok (.iload_n 1, 1) := by decide +kernel
theorem dX2_readToken_87 : decode cX2_readToken 87 = .ok (.invokevirtual 139, 3) := by decide +kernel
theorem dX2_readToken_90 : decode cX2_readToken 90 = .ok (.goto 74, 3) := by decide +kernel
theorem dX2_readToken_93 : decode cX2_readToken 93 = .ok (.iload_n 2, 1) := by decide +kernel
theorem dX2_readToken_94 : decode cX2_readToken 94 = .ok (.aload_n 0, 1) := by decide +kernel
theorem dX2_readToken_95 : decode cX2_readToken 95 = .ok (.getfield 62, 3) := by decide +kernel
theorem dX2_readToken_98 : decode cX2_readToken 98 = .ok (.iconst 2, 1) := by decide +kernel
theorem dX2_readToken_99 : decode cX2_readToken 99 = .ok (.iadd, 1) := by decide +kernel
theorem dX2_readToken_100 : decode cX2_readToken 100 = .ok (.if_icmp .le 11, 3) := by decide +kernel
theorem dX2_readToken_103 : decode cX2_readToken 103 = .ok (.aload_n 0, 1) := by decide +kernel
theorem dX2_readToken_104 : decode cX2_readToken 104 = .ok (.iconst 1, 1) := by decide +kernel
theorem dX2_readToken_105 : decode cX2_readToken 105 = .ok (.invokevirtual 58, 3) := by decide +kernel
theorem dX2_readToken_108 : decode cX2_readToken 108 = .ok (.goto 56, 3) := by decide +kernel
theorem dX2_readToken_111 : decode cX2_readToken 111 = .ok (.iload_n 2, 1) := by decide +kernel
theorem dX2_readToken_112 : decode cX2_readToken 112 = .ok (.aload_n 0, 1) := by decide +kernel
theorem dX2_readToken_113 : decode cX2_readToken 113 = .ok (.getfield 62, 3) := by decide +kernel
theorem dX2_readToken_116 : decode cX2_readToken 116 = .ok (.if_icmp .le 12, 3) := by decide +kernel
theorem dX2_readToken_119 : decode cX2_readToken 119 = .ok (.aload_n 0, 1) := by decide +kernel
theorem dX2_readToken_120 : decode cX2_readToken 120 = .ok (.iconst 1, 1) := by decide +kernel
theorem dX2_readToken_121 : decode cX2_readToken 121 = .ok (.iload_n 2, 1) := by decide +kernel
theorem dX2_readToken_122 : decode cX2_readToken 122 = .ok (.invokevirtual 139, 3) := by decide +kernel
theorem dX2_readToken_125 : decode cX2_readToken 125 = .ok (.goto 39, 3) := by decide +kernel
theorem dX2_readToken_128 : decode cX2_readToken 128 = .ok (.aload_n 0, 1) := by decide +kernel
theorem dX2_readToken_129 : decode cX2_readToken 129 = .ok (.getfield 12, 3) := by decide +kernel
theorem dX2_readToken_132 : decode cX2_readToken 132 = .ok (.getfield 143, 3) := by decide +kernel
theorem dX2_readToken_135 : decode cX2_readToken 135 = .ok (.aload_n 0, 1) := by decide +kernel
theorem dX2_readToken_136 : decode cX2_readToken 136 = .ok (.getfield 62, 3) := by decide +kernel
theorem dX2_readToken_139 : decode cX2_readToken 139 = .ok (.baload, 1) := by decide +kernel
theorem dX2_readToken_140 : decode cX2_readToken 140 = .ok (.bipush 59, 2) := by decide +kernel
theorem dX2_readToken_142 : decode cX2_readToken 142 = .ok (.if_icmp .ne 17, 3) := by decide +kernel
theorem dX2_readToken_145 : decode cX2_readToken 145 = .ok (.aload_n 0, 1) := by decide +kernel
theorem dX2_readToken_146 : decode cX2_readToken 146 = .ok (.iconst 2, 1) := by decide +kernel
theorem dX2_readToken_147 : decode cX2_readToken 147 = .ok (.aload_n 0, 1) := by decide +kernel
theorem dX2_readToken_148 : decode cX2_readToken 148 = .ok (.getfield 62, 3) := by decide +kernel
theorem dX2_readToken_151 : decode cX2_readToken 151 = .ok (.iconst 1, 1) := by decide +kernel
theorem dX2_readToken_152 : decode cX2_readToken 152 = .ok (.iadd, 1) := by decide +kernel
theorem dX2_readToken_153 : decode cX2_readToken 153 = .ok (.invokevirtual 139, 3) := by decide +kernel
theorem dX2_readToken_156 : decode cX2_readToken 156 = .ok (.goto 8, 3) := by decide +kernel
theorem dX2_readToken_159 : decode cX2_readToken 159 = .ok (.aload_n 0, 1) := by decide +kernel
theorem dX2_readToken_160 : decode cX2_readToken 160 = .ok (.iconst 1, 1) := by decide +kernel
theorem dX2_readToken_161 : decode cX2_readToken 161 = .ok (.invokevirtual 58, 3) := by decide +kernel
theorem dX2_readToken_164 : decode cX2_readToken 164 = .ok (.return_, 1) := by decide +kernel
theorem dX2_setToken_0 : decode cX2_setToken 0 = .ok (.aload_n 0, 1) := by decide +kernel
theorem dX2_setToken_1 : decode cX2_setToken 1 = .ok (.iload_n 1, 1) := by decide +kernel
theorem dX2_setToken_2 : decode cX2_setToken 2 = .ok (.putfield 48, 3) := by decide +kernel
theorem dX2_setToken_5 : decode cX2_setToken 5 = .ok (.aload_n 0, 1) := by decide +kernel
theorem dX2_setToken_6 : decode cX2_setToken 6 = .ok (.iload_n 2, 1) := by decide +kernel
theorem dX2_setToken_7 : decode cX2_setToken 7 = .ok (.putfield 32, 3) := by decide +kernel
theorem dX2_setToken_10 : decode cX2_setToken 10 = .ok (.return_, 1) := by decide +kernel
theorem dX2_value_0 : decode cX2_value 0 = .ok (.iconst 0, 1) := by decide +kernel
theorem dX2_value_1 : decode cX2_value 1 = .ok (.istore_n 1, 1) := by decide +kernel
theorem dX2_value_2 : decode cX2_value 2 = .ok (.aload_n 0, 1) := by decide +kernel
theorem dX2_value_3 : decode cX2_value 3 = .ok (.getfield 62, 3) := by decide +kernel
theorem dX2_value_6 : decode cX2_value 6 = .ok (.istore_n 2, 1) := by decide +kernel
theorem dX2_value_7 : decode cX2_value 7 = .ok (.iload_n 2, 1) := by decide +kernel
theorem dX2_value_8 : decode cX2_value 8 = .ok (.aload_n 0, 1) := by decide +kernel
theorem dX2_value_9 : decode cX2_value 9 = .ok (.getfield 32, 3) := by decide +kernel
theorem dX2_value_12 : decode cX2_value 12 = .ok (.if_icmp .ge 27, 3) := by decide +kernel
theorem dX2_value_15 : decode cX2_value 15 = .ok (.bipush 10, 2) := by decide +kernel
theorem dX2_value_17 : decode cX2_value 17 = .ok (.iload_n 1, 1) := by decide +kernel
theorem dX2_value_18 : decode cX2_value 18 = .ok (.imul, 1) := by decide +kernel
theorem dX2_value_19 : decode cX2_value 19 = .ok (.aload_n 0, 1) := by decide +kernel
theorem dX2_value_20 : decode cX2_value 20 = .ok (.getfield 12, 3) := by decide +kernel
theorem dX2_value_23 : decode cX2_value 23 = .ok (.getfield 143, 3) := by decide +kernel
theorem dX2_value_26 : decode cX2_value 26 = .ok (.iload_n 2, 1) := by decide +kernel
theorem dX2_value_27 : decode cX2_value 27 = .ok (.baload, 1) := by decide +kernel
theorem dX2_value_28 : decode cX2_value 28 = .ok (.iadd, 1) := by decide +kernel
theorem dX2_value_29 : decode cX2_value 29 = .ok (.bipush 48, 2) := by decide +kernel
theorem dX2_value_31 : decode cX2_value 31 = .ok (.isub, 1) := by decide +kernel
theorem dX2_value_32 : decode cX2_value 32 = .ok (.istore_n 1, 1) := by decide +kernel
theorem dX2_value_33 : decode cX2_value 33 = .ok (.iinc 2 1, 3) := by decide +kernel
theorem dX2_value_36 : decode cX2_value 36 = .ok (.goto (-29), 3) := by decide +kernel
theorem dX2_value_39 : decode cX2_value 39 = .ok (.iload_n 1, 1) := by decide +kernel
theorem dX2_value_40 : decode cX2_value 40 = .ok (.ireturn, 1) := by decide +kernel
theorem dX2_endOfRun_0 : decode cX2_endOfRun 0 = .ok (.iload_n 1, 1) := by decide +kernel
theorem dX2_endOfRun_1 : decode cX2_endOfRun 1 = .ok (.istore 4, 2) := by decide +kernel
theorem dX2_endOfRun_3 : decode cX2_endOfRun 3 = .ok (.iload 4, 2) := by decide +kernel
theorem dX2_endOfRun_5 : decode cX2_endOfRun 5 = .ok (.aload_n 0, 1) := by decide +kernel
theorem dX2_endOfRun_6 : decode cX2_endOfRun 6 = .ok (.getfield 12, 3) := by decide +kernel
theorem dX2_endOfRun_9 : decode cX2_endOfRun 9 = .ok (.getfield 45, 3) := by decide +kernel
theorem dX2_endOfRun_12 : decode cX2_endOfRun 12 = .ok (.if_icmp .ge 37, 3) := by decide +kernel
theorem dX2_endOfRun_15 : decode cX2_endOfRun 15 = .ok (.aload_n 0, 1) := by decide +kernel
theorem dX2_endOfRun_16 : decode cX2_endOfRun 16 = .ok (.getfield 12, 3) := by decide +kernel
theorem dX2_endOfRun_19 : decode cX2_endOfRun 19 = .ok (.getfield 143, 3) := by decide +kernel
theorem dX2_endOfRun_22 : decode cX2_endOfRun 22 = .ok (.iload 4, 2) := by decide +kernel
theorem dX2_endOfRun_24 : decode cX2_endOfRun 24 = .ok (.baload, 1) := by decide +kernel
theorem dX2_endOfRun_25 : decode cX2_endOfRun 25 = .ok (.iload_n 2, 1) := by decide +kernel
theorem dX2_endOfRun_26 : decode cX2_endOfRun 26 = .ok (.if_icmp .lt 23, 3) := by decide +kernel
theorem dX2_endOfRun_29 : decode cX2_endOfRun 29 = .ok (.aload_n 0, 1) := by decide +kernel
theorem dX2_endOfRun_30 : decode cX2_endOfRun 30 = .ok (.getfield 12, 3) := by decide +kernel
theorem dX2_endOfRun_33 : decode cX2_endOfRun 33 = .ok (.getfield 143, 3) := by decide +kernel
theorem dX2_endOfRun_36 : decode cX2_endOfRun 36 = .ok (.iload 4, 2) := by decide +kernel
theorem dX2_endOfRun_38 : decode cX2_endOfRun 38 = .ok (.baload, 1) := by decide +kernel
theorem dX2_endOfRun_39 : decode cX2_endOfRun 39 = .ok (.iload_n 3, 1) := by decide +kernel
theorem dX2_endOfRun_40 : decode cX2_endOfRun 40 = .ok (.if_icmp .gt 9, 3) := by decide +kernel
theorem dX2_endOfRun_43 : decode cX2_endOfRun 43 = .ok (.iinc 4 1, 3) := by decide +kernel
theorem dX2_endOfRun_46 : decode cX2_endOfRun 46 = .ok (.goto (-43), 3) := by decide +kernel
theorem dX2_endOfRun_49 : decode cX2_endOfRun 49 = .ok (.iload 4, 2) := by decide +kernel
theorem dX2_endOfRun_51 : decode cX2_endOfRun 51 = .ok (.ireturn, 1) := by decide +kernel
theorem dX2_isNamed_0 : decode cX2_isNamed 0 = .ok (.aload_n 0, 1) := by decide +kernel
theorem dX2_isNamed_1 : decode cX2_isNamed 1 = .ok (.getfield 32, 3) := by decide +kernel
theorem dX2_isNamed_4 : decode cX2_isNamed 4 = .ok (.aload_n 0, 1) := by decide +kernel
theorem dX2_isNamed_5 : decode cX2_isNamed 5 = .ok (.getfield 62, 3) := by decide +kernel
theorem dX2_isNamed_8 : decode cX2_isNamed 8 = .ok (.isub, 1) := by decide +kernel
theorem dX2_isNamed_9 : decode cX2_isNamed 9 = .ok (.aload_n 1, 1) := by decide +kernel
theorem dX2_isNamed_10 : decode cX2_isNamed 10 = .ok (.invokevirtual 147, 3) := by decide +kernel
theorem dX2_isNamed_13 : decode cX2_isNamed 13 = .ok (.if_icmp .ne 7, 3) := by decide +kernel
theorem dX2_isNamed_16 : decode cX2_isNamed 16 = .ok (.iconst 1, 1) := by decide +kernel
theorem dX2_isNamed_17 : decode cX2_isNamed 17 = .ok (.goto 4, 3) := by decide +kernel
theorem dX2_isNamed_20 : decode cX2_isNamed 20 = .ok (.iconst 0, 1) := by decide +kernel
theorem dX2_isNamed_21 : decode cX2_isNamed 21 = .ok (.istore_n 2, 1) := by decide +kernel
theorem dX2_isNamed_22 : decode cX2_isNamed 22 = .ok (.iconst 0, 1) := by decide +kernel
theorem dX2_isNamed_23 : decode cX2_isNamed 23 = .ok (.istore_n 3, 1) := by decide +kernel
theorem dX2_isNamed_24 : decode cX2_isNamed 24 = .ok (.iload_n 2, 1) := by decide +kernel
theorem dX2_isNamed_25 : decode cX2_isNamed 25 = .ok (.ifCond .eq 45, 3) := by decide +kernel
theorem dX2_isNamed_28 : decode cX2_isNamed 28 = .ok (.iload_n 3, 1) := by decide +kernel
theorem dX2_isNamed_29 : decode cX2_isNamed 29 = .ok (.aload_n 1, 1) := by decide +kernel
theorem dX2_isNamed_30 : decode cX2_isNamed 30 = .ok (.invokevirtual 147, 3) := by decide +kernel
theorem dX2_isNamed_33 : decode cX2_isNamed 33 = .ok (.if_icmp .ge 37, 3) := by decide +kernel
theorem dX2_isNamed_36 : decode cX2_isNamed 36 = .ok (.aload_n 0, 1) := by decide +kernel
theorem dX2_isNamed_37 : decode cX2_isNamed 37 = .ok (.getfield 12, 3) := by decide +kernel
theorem dX2_isNamed_40 : decode cX2_isNamed 40 = .ok (.getfield 143, 3) := by decide +kernel
theorem dX2_isNamed_43 : decode cX2_isNamed 43 = .ok (.aload_n 0, 1) := by decide +kernel
theorem dX2_isNamed_44 : decode cX2_isNamed 44 = .ok (.getfield 62, 3) := by decide +kernel
theorem dX2_isNamed_47 : decode cX2_isNamed 47 = .ok (.iload_n 3, 1) := by decide +kernel
theorem dX2_isNamed_48 : decode cX2_isNamed 48 = .ok (.iadd, 1) := by decide +kernel
theorem dX2_isNamed_49 : decode cX2_isNamed 49 = .ok (.baload, 1) := by decide +kernel
theorem dX2_isNamed_50 : decode cX2_isNamed 50 = .ok (.aload_n 1, 1) := by decide +kernel
theorem dX2_isNamed_51 : decode cX2_isNamed 51 = .ok (.iload_n 3, 1) := by decide +kernel
theorem dX2_isNamed_52 : decode cX2_isNamed 52 = .ok (.invokevirtual 152, 3) := by decide +kernel
theorem dX2_isNamed_55 : decode cX2_isNamed 55 = .ok (.if_icmp .ne 7, 3) := by decide +kernel
theorem dX2_isNamed_58 : decode cX2_isNamed 58 = .ok (.iconst 1, 1) := by decide +kernel
theorem dX2_isNamed_59 : decode cX2_isNamed 59 = .ok (.goto 4, 3) := by decide +kernel
theorem dX2_isNamed_62 : decode cX2_isNamed 62 = .ok (.iconst 0, 1) := by decide +kernel
theorem dX2_isNamed_63 : decode cX2_isNamed 63 = .ok (.istore_n 2, 1) := by decide +kernel
theorem dX2_isNamed_64 : decode cX2_isNamed 64 = .ok (.iinc 3 1, 3) := by decide +kernel
theorem dX2_isNamed_67 : decode cX2_isNamed 67 = .ok (.goto (-43), 3) := by decide +kernel
theorem dX2_isNamed_70 : decode cX2_isNamed 70 = .ok (.iload_n 2, 1) := by decide +kernel
theorem dX2_isNamed_71 : decode cX2_isNamed 71 = .ok (.ireturn, 1) := by decide +kernel
theorem dX3_init_0 : decode cX3_init 0 = .ok (.aload_n 0, 1) := by decide +kernel
theorem dX3_init_1 : decode cX3_init 1 = .ok (.invokespecial 3, 3) := by decide +kernel
theorem dX3_init_4 : decode cX3_init 4 = .ok (.aload_n 0, 1) := by decide +kernel
theorem dX3_init_5 : decode cX3_init 5 = .ok (.bipush 40, 2) := by decide +kernel
theorem dX3_init_7 : decode cX3_init 7 = .ok (.newarray .int, 2) := by decide +kernel
theorem dX3_init_9 : decode cX3_init 9 = .ok (.putfield 9, 3) := by decide +kernel
theorem dX3_init_12 : decode cX3_init 12 = .ok (.aload_n 0, 1) := by decide +kernel
theorem dX3_init_13 : decode cX3_init 13 = .ok (.iconst (-1), 1) := by decide +kernel
theorem dX3_init_14 : decode cX3_init 14 = .ok (.putfield 15, 3) := by decide +kernel
theorem dX3_init_17 : decode cX3_init 17 = .ok (.return_, 1) := by decide +kernel
theorem dX3_isNothing_0 : decode cX3_isNothing 0 = .ok (.aload_n 0, 1) := by decide +kernel
theorem dX3_isNothing_1 : decode cX3_isNothing 1 = .ok (.getfield 15, 3) := by decide +kernel
theorem dX3_isNothing_4 : decode cX3_isNothing 4 = .ok (.iconst (-1), 1) := by decide +kernel
theorem dX3_isNothing_5 : decode cX3_isNothing 5 = .ok (.if_icmp .ne 7, 3) := by decide +kernel
theorem dX3_isNothing_8 : decode cX3_isNothing 8 = .ok (.iconst 1, 1) := by decide +kernel
theorem dX3_isNothing_9 : decode cX3_isNothing 9 = .ok (.goto 4, 3) := by decide +kernel
theorem dX3_isNothing_12 : decode cX3_isNothing 12 = .ok (.iconst 0, 1) := by decide +kernel
theorem dX3_isNothing_13 : decode cX3_isNothing 13 = .ok (.ireturn, 1) := by decide +kernel
theorem dX3_renew_0 : decode cX3_renew 0 = .ok (.aload_n 0, 1) := by decide +kernel
theorem dX3_renew_1 : decode cX3_renew 1 = .ok (.iload_n 1, 1) := by decide +kernel
theorem dX3_renew_2 : decode cX3_renew 2 = .ok (.putfield 15, 3) := by decide +kernel
theorem dX3_renew_5 : decode cX3_renew 5 = .ok (.aload_n 0, 1) := by decide +kernel
theorem dX3_renew_6 : decode cX3_renew 6 = .ok (.iload_n 2, 1) := by decide +kernel
theorem dX3_renew_7 : decode cX3_renew 7 = .ok (.putfield 19, 3) := by decide +kernel
theorem dX3_renew_10 : decode cX3_renew 10 = .ok (.aload_n 0, 1) := by decide +kernel
theorem dX3_renew_11 : decode cX3_renew 11 = .ok (.getfield 9, 3) := by decide +kernel
theorem dX3_renew_14 : decode cX3_renew 14 = .ok (.iconst 0, 1) := by decide +kernel
theorem dX3_renew_15 : decode cX3_renew 15 = .ok (.invokestatic 22, 3) := by decide +kernel
theorem dX3_renew_18 : decode cX3_renew 18 = .ok (.return_, 1) := by decide +kernel
theorem dX3_faultOfCells_0 : decode cX3_faultOfCells 0 = .ok (.aload_n 0, 1) := by decide +kernel
theorem dX3_faultOfCells_1 : decode cX3_faultOfCells 1 = .ok (.invokevirtual 28, 3) := by decide +kernel
theorem dX3_faultOfCells_4 : decode cX3_faultOfCells 4 = .ok (.ifCond .eq 5, 3) := by decide +kernel
theorem dX3_faultOfCells_7 : decode cX3_faultOfCells 7 = .ok (.iconst 1, 1) := by decide +kernel
theorem dX3_faultOfCells_8 : decode cX3_faultOfCells 8 = .ok (.ireturn, 1) := by decide +kernel
theorem dX3_faultOfCells_9 : decode cX3_faultOfCells 9 = .ok (.iload_n 1, 1) := by decide +kernel
theorem dX3_faultOfCells_10 : decode cX3_faultOfCells 10 = .ok (.iconst 0, 1) := by decide +kernel
theorem dX3_faultOfCells_11 : decode cX3_faultOfCells 11 = .ok (.aload_n 0, 1) := by decide +kernel
theorem dX3_faultOfCells_12 : decode cX3_faultOfCells 12 = .ok (.getfield 19, 3) := by decide +kernel
theorem dX3_faultOfCells_15 : decode cX3_faultOfCells 15 = .ok (.iload_n 2, 1) := by decide +kernel
theorem dX3_faultOfCells_16 : decode cX3_faultOfCells 16 = .ok (.isub, 1) := by decide +kernel
theorem dX3_faultOfCells_17 : decode cX3_faultOfCells 17 = .ok (.invokestatic 32, 3) := by decide +kernel
theorem dX3_faultOfCells_20 : decode cX3_faultOfCells 20 = .ok (.ifCond .eq 7, 3) := by decide +kernel
theorem dX3_faultOfCells_23 : decode cX3_faultOfCells 23 = .ok (.iconst 0, 1) := by decide +kernel
theorem dX3_faultOfCells_24 : decode cX3_faultOfCells 24 = .ok (.goto 4, 3) := by decide +kernel
theorem dX3_faultOfCells_27 : decode cX3_faultOfCells 27 = .ok (.iconst 2, 1) := by decide +kernel
theorem dX3_faultOfCells_28 : decode cX3_faultOfCells 28 = .ok (.ireturn, 1) := by decide +kernel
theorem dX3_faultOfReading_0 : decode cX3_faultOfReading 0 = .ok (.aload_n 0, 1) := by decide +kernel
theorem dX3_faultOfReading_1 : decode cX3_faultOfReading 1 = .ok (.invokevirtual 28, 3) := by decide +kernel
theorem dX3_faultOfReading_4 : decode cX3_faultOfReading 4 = .ok (.ifCond .ne 13, 3) := by decide +kernel
theorem dX3_faultOfReading_7 : decode cX3_faultOfReading 7 = .ok (.aload_n 0, 1) := by decide +kernel
theorem dX3_faultOfReading_8 : decode cX3_faultOfReading 8 = .ok (.getfield 15, 3) := by decide +kernel
theorem dX3_faultOfReading_11 : decode cX3_faultOfReading 11 = .ok (.iload_n 1, 1) := by decide +kernel
theorem dX3_faultOfReading_12 : decode cX3_faultOfReading 12 = .ok (.if_icmp .eq 5, 3) := by decide +kernel
theorem dX3_faultOfReading_15 : decode cX3_faultOfReading 15 = .ok (.iconst 3, 1) := by decide +kernel
theorem dX3_faultOfReading_16 : decode cX3_faultOfReading 16 = .ok (.ireturn, 1) := by decide +kernel
theorem dX3_faultOfReading_17 : decode cX3_faultOfReading 17 = .ok (.aload_n 0, 1) := by decide +kernel
theorem dX3_faultOfReading_18 : decode cX3_faultOfReading 18 = .ok (.iload_n 2, 1) := by decide +kernel
theorem dX3_faultOfReading_19 : decode cX3_faultOfReading 19 = .ok (.iconst 3, 1) := by decide +kernel
theorem dX3_faultOfReading_20 : decode cX3_faultOfReading 20 = .ok (.invokevirtual 36, 3) := by decide +kernel
theorem dX3_faultOfReading_23 : decode cX3_faultOfReading 23 = .ok (.ireturn, 1) := by decide +kernel
theorem dX3_put_0 : decode cX3_put 0 = .ok (.aload_n 0, 1) := by decide +kernel
theorem dX3_put_1 : decode cX3_put 1 = .ok (.getfield 15, 3) := by decide +kernel
theorem dX3_put_4 : decode cX3_put 4 = .ok (.lookupswitch 50 #[(0, 28), (1, 39)], 28) := by decide +kernel
theorem dX3_put_32 : decode cX3_put 32 = .ok (.aload_n 0, 1) := by decide +kernel
theorem dX3_put_33 : decode cX3_put 33 = .ok (.getfield 9, 3) := by decide +kernel
theorem dX3_put_36 : decode cX3_put 36 = .ok (.iload_n 1, 1) := by decide +kernel
theorem dX3_put_37 : decode cX3_put 37 = .ok (.iload_n 2, 1) := by decide +kernel
theorem dX3_put_38 : decode cX3_put 38 = .ok (.i2b, 1) := by decide +kernel
theorem dX3_put_39 : decode cX3_put 39 = .ok (.iastore, 1) := by decide +kernel
theorem dX3_put_40 : decode cX3_put 40 = .ok (.goto 21, 3) := by decide +kernel
theorem dX3_put_43 : decode cX3_put 43 = .ok (.aload_n 0, 1) := by decide +kernel
theorem dX3_put_44 : decode cX3_put 44 = .ok (.getfield 9, 3) := by decide +kernel
theorem dX3_put_47 : decode cX3_put 47 = .ok (.iload_n 1, 1) := by decide +kernel
theorem dX3_put_48 : decode cX3_put 48 = .ok (.iload_n 2, 1) := by decide +kernel
theorem dX3_put_49 : decode cX3_put 49 = .ok (.i2s, 1) := by decide +kernel
theorem dX3_put_50 : decode cX3_put 50 = .ok (.iastore, 1) := by decide +kernel
theorem dX3_put_51 : decode cX3_put 51 = .ok (.goto 10, 3) := by decide +kernel
theorem dX3_put_54 : decode cX3_put 54 = .ok (.aload_n 0, 1) := by decide +kernel
theorem dX3_put_55 : decode cX3_put 55 = .ok (.getfield 9, 3) := by decide +kernel
theorem dX3_put_58 : decode cX3_put 58 = .ok (.iload_n 1, 1) := by decide +kernel
theorem dX3_put_59 : decode cX3_put 59 = .ok (.iload_n 2, 1) := by decide +kernel
theorem dX3_put_60 : decode cX3_put 60 = .ok (.iastore, 1) := by decide +kernel
theorem dX3_put_61 : decode cX3_put 61 = .ok (.return_, 1) := by decide +kernel
theorem dX4_init_0 : decode cX4_init 0 = .ok (.aload_n 0, 1) := by decide +kernel
theorem dX4_init_1 : decode cX4_init 1 = .ok (.invokespecial 3, 3) := by decide +kernel
theorem dX4_init_4 : decode cX4_init 4 = .ok (.aload_n 0, 1) := by decide +kernel
theorem dX4_init_5 : decode cX4_init 5 = .ok (.bipush 6, 2) := by decide +kernel
theorem dX4_init_7 : decode cX4_init 7 = .ok (.newarray .int, 2) := by decide +kernel
theorem dX4_init_9 : decode cX4_init 9 = .ok (.putfield 9, 3) := by decide +kernel
theorem dX4_init_12 : decode cX4_init 12 = .ok (.aload_n 0, 1) := by decide +kernel
theorem dX4_init_13 : decode cX4_init 13 = .ok (.bipush 6, 2) := by decide +kernel
theorem dX4_init_15 : decode cX4_init 15 = .ok (.newarray .int, 2) := by decide +kernel
theorem dX4_init_17 : decode cX4_init 17 = .ok (.putfield 15, 3) := by decide +kernel
theorem dX4_init_20 : decode cX4_init 20 = .ok (.aload_n 0, 1) := by decide +kernel
theorem dX4_init_21 : decode cX4_init 21 = .ok (.bipush 121, 2) := by decide +kernel
theorem dX4_init_23 : decode cX4_init 23 = .ok (.newarray .int, 2) := by decide +kernel
theorem dX4_init_25 : decode cX4_init 25 = .ok (.putfield 18, 3) := by decide +kernel
theorem dX4_init_28 : decode cX4_init 28 = .ok (.return_, 1) := by decide +kernel
theorem dX4_add_0 : decode cX4_add 0 = .ok (.aload_n 0, 1) := by decide +kernel
theorem dX4_add_1 : decode cX4_add 1 = .ok (.getfield 21, 3) := by decide +kernel
theorem dX4_add_4 : decode cX4_add 4 = .ok (.bipush 6, 2) := by decide +kernel
theorem dX4_add_6 : decode cX4_add 6 = .ok (.if_icmp .lt 6, 3) := by decide +kernel
theorem dX4_add_9 : decode cX4_add 9 = .ok (.bipush (-3), 2) := by decide +kernel
theorem dX4_add_11 : decode cX4_add 11 = .ok (.ireturn, 1) := by decide +kernel
theorem dX4_add_12 : decode cX4_add 12 = .ok (.aload_n 0, 1) := by decide +kernel
theorem dX4_add_13 : decode cX4_add 13 = .ok (.getfield 9, 3) := by decide +kernel
theorem dX4_add_16 : decode cX4_add 16 = .ok (.aload_n 0, 1) := by decide +kernel
theorem dX4_add_17 : decode cX4_add 17 = .ok (.getfield 21, 3) := by decide +kernel
theorem dX4_add_20 : decode cX4_add 20 = .ok (.iload_n 1, 1) := by decide +kernel
theorem dX4_add_21 : decode cX4_add 21 = .ok (.iastore, 1) := by decide +kernel
theorem dX4_add_22 : decode cX4_add 22 = .ok (.aload_n 0, 1) := by decide +kernel
theorem dX4_add_23 : decode cX4_add 23 = .ok (.getfield 15, 3) := by decide +kernel
theorem dX4_add_26 : decode cX4_add 26 = .ok (.aload_n 0, 1) := by decide +kernel
theorem dX4_add_27 : decode cX4_add 27 = .ok (.getfield 21, 3) := by decide +kernel
theorem dX4_add_30 : decode cX4_add 30 = .ok (.iload_n 2, 1) := by decide +kernel
theorem dX4_add_31 : decode cX4_add 31 = .ok (.iastore, 1) := by decide +kernel
theorem dX4_add_32 : decode cX4_add 32 = .ok (.aload_n 0, 1) := by decide +kernel
theorem dX4_add_33 : decode cX4_add 33 = .ok (.dup, 1) := by decide +kernel
theorem dX4_add_34 : decode cX4_add 34 = .ok (.getfield 21, 3) := by decide +kernel
theorem dX4_add_37 : decode cX4_add 37 = .ok (.iconst 1, 1) := by decide +kernel
theorem dX4_add_38 : decode cX4_add 38 = .ok (.iadd, 1) := by decide +kernel
theorem dX4_add_39 : decode cX4_add 39 = .ok (.putfield 21, 3) := by decide +kernel
theorem dX4_add_42 : decode cX4_add 42 = .ok (.aload_n 0, 1) := by decide +kernel
theorem dX4_add_43 : decode cX4_add 43 = .ok (.getfield 21, 3) := by decide +kernel
theorem dX4_add_46 : decode cX4_add 46 = .ok (.ireturn, 1) := by decide +kernel
theorem dX4_keepFirst_0 : decode cX4_keepFirst 0 = .ok (.aload_n 0, 1) := by decide +kernel
theorem dX4_keepFirst_1 : decode cX4_keepFirst 1 = .ok (.getfield 21, 3) := by decide +kernel
theorem dX4_keepFirst_4 : decode cX4_keepFirst 4 = .ok (.istore_n 2, 1) := by decide +kernel
theorem dX4_keepFirst_5 : decode cX4_keepFirst 5 = .ok (.aload_n 0, 1) := by decide +kernel
theorem dX4_keepFirst_6 : decode cX4_keepFirst 6 = .ok (.iload_n 1, 1) := by decide +kernel
theorem dX4_keepFirst_7 : decode cX4_keepFirst 7 = .ok (.putfield 21, 3) := by decide +kernel
theorem dX4_keepFirst_10 : decode cX4_keepFirst 10 = .ok (.iload_n 2, 1) := by decide +kernel
theorem dX4_keepFirst_11 : decode cX4_keepFirst 11 = .ok (.ireturn, 1) := by decide +kernel
theorem dX4_fit_0 : decode cX4_fit 0 = .ok (.iconst 0, 1) := by decide +kernel
theorem dX4_fit_1 : decode cX4_fit 1 = .ok (.istore 4, 2) := by decide +kernel
theorem dX4_fit_3 : decode cX4_fit 3 = .ok (.iload 4, 2) := by decide +kernel
theorem dX4_fit_5 : decode cX4_fit 5 = .ok (.aload_n 0, 1) := by decide +kernel
theorem dX4_fit_6 : decode cX4_fit 6 = .ok (.getfield 21, 3) := by decide +kernel
theorem dX4_fit_9 : decode cX4_fit 9 = .ok (.if_icmp .ge 34, 3) := by decide +kernel
theorem dX4_fit_12 : decode cX4_fit 12 = .ok (.aload_n 1, 1) := by decide +kernel
theorem dX4_fit_13 : decode cX4_fit 13 = .ok (.aload_n 0, 1) := by decide +kernel
theorem dX4_fit_14 : decode cX4_fit 14 = .ok (.getfield 9, 3) := by decide +kernel
theorem dX4_fit_17 : decode cX4_fit 17 = .ok (.iload 4, 2) := by decide +kernel
theorem dX4_fit_19 : decode cX4_fit 19 = .ok (.iaload, 1) := by decide +kernel
theorem dX4_fit_20 : decode cX4_fit 20 = .ok (.iload_n 2, 1) := by decide +kernel
theorem dX4_fit_21 : decode cX4_fit 21 = .ok (.aload_n 3, 1) := by decide +kernel
theorem dX4_fit_22 : decode cX4_fit 22 = .ok (.invokevirtual 25, 3) := by decide +kernel
theorem dX4_fit_25 : decode cX4_fit 25 = .ok (.aload_n 0, 1) := by decide +kernel
theorem dX4_fit_26 : decode cX4_fit 26 = .ok (.getfield 15, 3) := by decide +kernel
theorem dX4_fit_29 : decode cX4_fit 29 = .ok (.iload 4, 2) := by decide +kernel
theorem dX4_fit_31 : decode cX4_fit 31 = .ok (.iaload, 1) := by decide +kernel
theorem dX4_fit_32 : decode cX4_fit 32 = .ok (.if_icmp .eq 5, 3) := by decide +kernel
theorem dX4_fit_35 : decode cX4_fit 35 = .ok (.iconst 0, 1) := by decide +kernel
theorem dX4_fit_36 : decode cX4_fit 36 = .ok (.ireturn, 1) := by decide +kernel
theorem dX4_fit_37 : decode cX4_fit 37 = .ok (.iinc 4 1, 3) := by decide +kernel
theorem dX4_fit_40 : decode cX4_fit 40 = .ok (.goto (-37), 3) := by decide +kernel
theorem dX4_fit_43 : decode cX4_fit 43 = .ok (.iconst 1, 1) := by decide +kernel
theorem dX4_fit_44 : decode cX4_fit 44 = .ok (.ireturn, 1) := by decide +kernel
theorem dX4_howManyBreaths_0 : decode cX4_howManyBreaths 0 = .ok (.aload_n 1, 1) := by decide +kernel
theorem dX4_howManyBreaths_1 : decode cX4_howManyBreaths 1 = .ok (.iload_n 2, 1) := by decide +kernel
theorem dX4_howManyBreaths_2 : decode cX4_howManyBreaths 2 = .ok (.invokevirtual 31, 3) := by decide +kernel
theorem dX4_howManyBreaths_5 : decode cX4_howManyBreaths 5 = .ok (.astore_n 3, 1) := by decide +kernel
theorem dX4_howManyBreaths_6 : decode cX4_howManyBreaths 6 = .ok (.iconst 0, 1) := by decide +kernel
theorem dX4_howManyBreaths_7 : decode cX4_howManyBreaths 7 = .ok (.istore 4, 2) := by decide +kernel
theorem dX4_howManyBreaths_9 : decode cX4_howManyBreaths 9 = .ok (.iconst 1, 1) := by decide +kernel
theorem dX4_howManyBreaths_10 : decode cX4_howManyBreaths 10 = .ok (.istore 5, 2) := by decide +kernel
theorem dX4_howManyBreaths_12 : decode cX4_howManyBreaths 12 = .ok (.iload 5, 2) := by decide +kernel
theorem dX4_howManyBreaths_14 : decode cX4_howManyBreaths 14 = .ok (.bipush 60, 2) := by decide +kernel
theorem dX4_howManyBreaths_16 : decode cX4_howManyBreaths 16 = .ok (.if_icmp .gt 23, 3) := by decide +kernel
theorem dX4_howManyBreaths_19 : decode cX4_howManyBreaths 19 = .ok (.aload_n 0, 1) := by decide +kernel
theorem dX4_howManyBreaths_20 : decode cX4_howManyBreaths 20 = .ok (.aload_n 1, 1) := by decide +kernel
theorem dX4_howManyBreaths_21 : decode cX4_howManyBreaths 21 = .ok (.iload 5, 2) := by decide +kernel
theorem dX4_howManyBreaths_23 : decode cX4_howManyBreaths 23 = .ok (.aload_n 3, 1) := by decide +kernel
theorem dX4_howManyBreaths_24 : decode cX4_howManyBreaths 24 = .ok (.invokevirtual 35, 3) := by decide +kernel
theorem dX4_howManyBreaths_27 : decode cX4_howManyBreaths 27 = .ok (.ifCond .eq 6, 3) := by decide +kernel
theorem dX4_howManyBreaths_30 : decode cX4_howManyBreaths 30 = .ok (.iinc 4 1, 3) := by decide +kernel
theorem dX4_howManyBreaths_33 : decode cX4_howManyBreaths 33 = .ok (.iinc 5 1, 3) := by decide +kernel
theorem dX4_howManyBreaths_36 : decode cX4_howManyBreaths 36 = .ok (.goto (-24), 3) := by decide +kernel
theorem dX4_howManyBreaths_39 : decode cX4_howManyBreaths 39 = .ok (.iload 4, 2) := by decide +kernel
theorem dX4_howManyBreaths_41 : decode cX4_howManyBreaths 41 = .ok (.ireturn, 1) := by decide +kernel
theorem dX4_leastPossible_0 : decode cX4_leastPossible 0 = .ok (.aload_n 1, 1) := by decide +kernel
theorem dX4_leastPossible_1 : decode cX4_leastPossible 1 = .ok (.iload_n 2, 1) := by decide +kernel
theorem dX4_leastPossible_2 : decode cX4_leastPossible 2 = .ok (.invokevirtual 31, 3) := by decide +kernel
theorem dX4_leastPossible_5 : decode cX4_leastPossible 5 = .ok (.astore_n 3, 1) := by decide +kernel
theorem dX4_leastPossible_6 : decode cX4_leastPossible 6 = .ok (.iconst 1, 1) := by decide +kernel
theorem dX4_leastPossible_7 : decode cX4_leastPossible 7 = .ok (.istore 4, 2) := by decide +kernel
theorem dX4_leastPossible_9 : decode cX4_leastPossible 9 = .ok (.iload 4, 2) := by decide +kernel
theorem dX4_leastPossible_11 : decode cX4_leastPossible 11 = .ok (.bipush 60, 2) := by decide +kernel
theorem dX4_leastPossible_13 : decode cX4_leastPossible 13 = .ok (.if_icmp .gt 23, 3) := by decide +kernel
theorem dX4_leastPossible_16 : decode cX4_leastPossible 16 = .ok (.aload_n 0, 1) := by decide +kernel
theorem dX4_leastPossible_17 : decode cX4_leastPossible 17 = .ok (.aload_n 1, 1) := by decide +kernel
theorem dX4_leastPossible_18 : decode cX4_leastPossible 18 = .ok (.iload 4, 2) := by decide +kernel
theorem dX4_leastPossible_20 : decode cX4_leastPossible 20 = .ok (.aload_n 3, 1) := by decide +kernel
theorem dX4_leastPossible_21 : decode cX4_leastPossible 21 = .ok (.invokevirtual 35, 3) := by decide +kernel
theorem dX4_leastPossible_24 : decode cX4_leastPossible 24 = .ok (.ifCond .eq 6, 3) := by decide +kernel
theorem dX4_leastPossible_27 : decode cX4_leastPossible 27 = .ok (.iload 4, 2) := by decide +kernel
theorem dX4_leastPossible_29 : decode cX4_leastPossible 29 = .ok (.ireturn, 1) := by decide +kernel
theorem dX4_leastPossible_30 : decode cX4_leastPossible 30 = .ok (.iinc 4 1, 3) := by decide +kernel
theorem dX4_leastPossible_33 : decode cX4_leastPossible 33 = .ok (.goto (-24), 3) := by decide +kernel
theorem dX4_leastPossible_36 : decode cX4_leastPossible 36 = .ok (.bipush (-4), 2) := by decide +kernel
theorem dX4_leastPossible_38 : decode cX4_leastPossible 38 = .ok (.ireturn, 1) := by decide +kernel
theorem dX4_possibleSayers_0 : decode cX4_possibleSayers 0 = .ok (.iconst 0, 1) := by decide +kernel
theorem dX4_possibleSayers_1 : decode cX4_possibleSayers 1 = .ok (.istore_n 2, 1) := by decide +kernel
theorem dX4_possibleSayers_2 : decode cX4_possibleSayers 2 = .ok (.iconst 0, 1) := by decide +kernel
theorem dX4_possibleSayers_3 : decode cX4_possibleSayers 3 = .ok (.istore_n 3, 1) := by decide +kernel
theorem dX4_possibleSayers_4 : decode cX4_possibleSayers 4 = .ok (.iload_n 3, 1) := by decide +kernel
theorem dX4_possibleSayers_5 : decode cX4_possibleSayers 5 = .ok (.aload_n 1, 1) := by decide +kernel
theorem dX4_possibleSayers_6 : decode cX4_possibleSayers 6 = .ok (.getfield 39, 3) := by decide +kernel
theorem dX4_possibleSayers_9 : decode cX4_possibleSayers 9 = .ok (.if_icmp .ge 26, 3) := by decide +kernel
theorem dX4_possibleSayers_12 : decode cX4_possibleSayers 12 = .ok (.aload_n 0, 1) := by decide +kernel
theorem dX4_possibleSayers_13 : decode cX4_possibleSayers 13 = .ok (.aload_n 1, 1) := by decide +kernel
theorem dX4_possibleSayers_14 : decode cX4_possibleSayers 14 = .ok (.iload_n 3, 1) := by decide +kernel
theorem dX4_possibleSayers_15 : decode cX4_possibleSayers 15 = .ok (.invokevirtual 42, 3) := by decide +kernel
theorem dX4_possibleSayers_18 : decode cX4_possibleSayers 18 = .ok (.bipush (-4), 2) := by decide +kernel
theorem dX4_possibleSayers_20 : decode cX4_possibleSayers 20 = .ok (.if_icmp .eq 9, 3) := by decide +kernel
theorem dX4_possibleSayers_23 : decode cX4_possibleSayers 23 = .ok (.iload_n 2, 1) := by decide +kernel
theorem dX4_possibleSayers_24 : decode cX4_possibleSayers 24 = .ok (.iconst 1, 1) := by decide +kernel
theorem dX4_possibleSayers_25 : decode cX4_possibleSayers 25 = .ok (.iload_n 3, 1) := by decide +kernel
theorem dX4_possibleSayers_26 : decode cX4_possibleSayers 26 = .ok (.ishl, 1) := by decide +kernel
theorem dX4_possibleSayers_27 : decode cX4_possibleSayers 27 = .ok (.ior, 1) := by decide +kernel
theorem dX4_possibleSayers_28 : decode cX4_possibleSayers 28 = .ok (.istore_n 2, 1) := by decide +kernel
theorem dX4_possibleSayers_29 : decode cX4_possibleSayers 29 = .ok (.iinc 3 1, 3) := by decide +kernel
theorem dX4_possibleSayers_32 : decode cX4_possibleSayers 32 = .ok (.goto (-28), 3) := by decide +kernel
theorem dX4_possibleSayers_35 : decode cX4_possibleSayers 35 = .ok (.iload_n 2, 1) := by decide +kernel
theorem dX4_possibleSayers_36 : decode cX4_possibleSayers 36 = .ok (.ireturn, 1) := by decide +kernel
theorem dX4_leftAtWorst_0 : decode cX4_leftAtWorst 0 = .ok (.iconst 0, 1) := by decide +kernel
theorem dX4_leftAtWorst_1 : decode cX4_leftAtWorst 1 = .ok (.istore_n 3, 1) := by decide +kernel
theorem dX4_leftAtWorst_2 : decode cX4_leftAtWorst 2 = .ok (.aload_n 0, 1) := by decide +kernel
theorem dX4_leftAtWorst_3 : decode cX4_leftAtWorst 3 = .ok (.getfield 18, 3) := by decide +kernel
theorem dX4_leftAtWorst_6 : decode cX4_leftAtWorst 6 = .ok (.iconst 0, 1) := by decide +kernel
theorem dX4_leftAtWorst_7 : decode cX4_leftAtWorst 7 = .ok (.invokestatic 46, 3) := by decide +kernel
theorem dX4_leftAtWorst_10 : decode cX4_leftAtWorst 10 = .ok (.iconst 0, 1) := by decide +kernel
theorem dX4_leftAtWorst_11 : decode cX4_leftAtWorst 11 = .ok (.istore 4, 2) := by decide +kernel
theorem dX4_leftAtWorst_13 : decode cX4_leftAtWorst 13 = .ok (.iload 4, 2) := by decide +kernel
theorem dX4_leftAtWorst_15 : decode cX4_leftAtWorst 15 = .ok (.aload_n 1, 1) := by decide +kernel
theorem dX4_leftAtWorst_16 : decode cX4_leftAtWorst 16 = .ok (.getfield 39, 3) := by decide +kernel
theorem dX4_leftAtWorst_19 : decode cX4_leftAtWorst 19 = .ok (.if_icmp .ge 79, 3) := by decide +kernel
theorem dX4_leftAtWorst_22 : decode cX4_leftAtWorst 22 = .ok (.aload_n 1, 1) := by decide +kernel
theorem dX4_leftAtWorst_23 : decode cX4_leftAtWorst 23 = .ok (.iload 4, 2) := by decide +kernel
theorem dX4_leftAtWorst_25 : decode cX4_leftAtWorst 25 = .ok (.invokevirtual 31, 3) := by decide +kernel
theorem dX4_leftAtWorst_28 : decode cX4_leftAtWorst 28 = .ok (.astore 5, 2) := by decide +kernel
theorem dX4_leftAtWorst_30 : decode cX4_leftAtWorst 30 = .ok (.iconst 1, 1) := by decide +kernel
theorem dX4_leftAtWorst_31 : decode cX4_leftAtWorst 31 = .ok (.istore 6, 2) := by decide +kernel
theorem dX4_leftAtWorst_33 : decode cX4_leftAtWorst 33 = .ok (.iload 6, 2) := by decide +kernel
theorem dX4_leftAtWorst_35 : decode cX4_leftAtWorst 35 = .ok (.bipush 60, 2) := by decide +kernel
theorem dX4_leftAtWorst_37 : decode cX4_leftAtWorst 37 = .ok (.if_icmp .gt 55, 3) := by decide +kernel
theorem dX4_leftAtWorst_40 : decode cX4_leftAtWorst 40 = .ok (.aload_n 0, 1) := by decide +kernel
theorem dX4_leftAtWorst_41 : decode cX4_leftAtWorst 41 = .ok (.aload_n 1, 1) := by decide +kernel
theorem dX4_leftAtWorst_42 : decode cX4_leftAtWorst 42 = .ok (.iload 6, 2) := by decide +kernel
theorem dX4_leftAtWorst_44 : decode cX4_leftAtWorst 44 = .ok (.aload 5, 2) := by decide +kernel
theorem dX4_leftAtWorst_46 : decode cX4_leftAtWorst 46 = .ok (.invokevirtual 35, 3) := by decide +kernel
theorem dX4_leftAtWorst_49 : decode cX4_leftAtWorst 49 = .ok (.ifCond .eq 37, 3) := by decide +kernel
theorem dX4_leftAtWorst_52 : decode cX4_leftAtWorst 52 = .ok (.aload_n 1, 1) := by decide +kernel
theorem dX4_leftAtWorst_53 : decode cX4_leftAtWorst 53 = .ok (.iload_n 2, 1) := by decide +kernel
theorem dX4_leftAtWorst_54 : decode cX4_leftAtWorst 54 = .ok (.iload 6, 2) := by decide +kernel
theorem dX4_leftAtWorst_56 : decode cX4_leftAtWorst 56 = .ok (.aload 5, 2) := by decide +kernel
theorem dX4_leftAtWorst_58 : decode cX4_leftAtWorst 58 = .ok (.invokevirtual 25, 3) := by decide +kernel
theorem dX4_leftAtWorst_61 : decode cX4_leftAtWorst 61 = .ok (.istore 7, 2) := by decide +kernel
theorem dX4_leftAtWorst_63 : decode cX4_leftAtWorst 63 = .ok (.aload_n 0, 1) := by decide +kernel
theorem dX4_leftAtWorst_64 : decode cX4_leftAtWorst 64 = .ok (.getfield 18, 3) := by decide +kernel
theorem dX4_leftAtWorst_67 : decode cX4_leftAtWorst 67 = .ok (.iload 7, 2) := by decide +kernel
theorem dX4_leftAtWorst_69 : decode cX4_leftAtWorst 69 = .ok (.dup2, 1) := by decide +kernel
theorem dX4_leftAtWorst_70 : decode cX4_leftAtWorst 70 = .ok (.iaload, 1) := by decide +kernel
theorem dX4_leftAtWorst_71 : decode cX4_leftAtWorst 71 = .ok (.iconst 1, 1) := by decide +kernel
theorem dX4_leftAtWorst_72 : decode cX4_leftAtWorst 72 = .ok (.iadd, 1) := by decide +kernel
theorem dX4_leftAtWorst_73 : decode cX4_leftAtWorst 73 = .ok (.iastore, 1) := by decide +kernel
theorem dX4_leftAtWorst_74 : decode cX4_leftAtWorst 74 = .ok (.iload_n 3, 1) := by decide +kernel
theorem dX4_leftAtWorst_75 : decode cX4_leftAtWorst 75 = .ok (.aload_n 0, 1) := by decide +kernel
theorem dX4_leftAtWorst_76 : decode cX4_leftAtWorst 76 = .ok (.getfield 18, 3) := by decide +kernel
theorem dX4_leftAtWorst_79 : decode cX4_leftAtWorst 79 = .ok (.iload 7, 2) := by decide +kernel
theorem dX4_leftAtWorst_81 : decode cX4_leftAtWorst 81 = .ok (.iaload, 1) := by decide +kernel
theorem dX4_leftAtWorst_82 : decode cX4_leftAtWorst 82 = .ok (.invokestatic 52, 3) := by decide +kernel
theorem dX4_leftAtWorst_85 : decode cX4_leftAtWorst 85 = .ok (.istore_n 3, 1) := by decide +kernel
theorem dX4_leftAtWorst_86 : decode cX4_leftAtWorst 86 = .ok (.iinc 6 1, 3) := by decide +kernel
theorem dX4_leftAtWorst_89 : decode cX4_leftAtWorst 89 = .ok (.goto (-56), 3) := by decide +kernel
theorem dX4_leftAtWorst_92 : decode cX4_leftAtWorst 92 = .ok (.iinc 4 1, 3) := by decide +kernel
theorem dX4_leftAtWorst_95 : decode cX4_leftAtWorst 95 = .ok (.goto (-82), 3) := by decide +kernel
theorem dX4_leftAtWorst_98 : decode cX4_leftAtWorst 98 = .ok (.iload_n 3, 1) := by decide +kernel
theorem dX4_leftAtWorst_99 : decode cX4_leftAtWorst 99 = .ok (.ireturn, 1) := by decide +kernel
theorem dX5_init_0 : decode cX5_init 0 = .ok (.aload_n 0, 1) := by decide +kernel
theorem dX5_init_1 : decode cX5_init 1 = .ok (.invokespecial 3, 3) := by decide +kernel
theorem dX5_init_4 : decode cX5_init 4 = .ok (.aload_n 0, 1) := by decide +kernel
theorem dX5_init_5 : decode cX5_init 5 = .ok (.sipush 160, 3) := by decide +kernel
theorem dX5_init_8 : decode cX5_init 8 = .ok (.newarray .byte, 2) := by decide +kernel
theorem dX5_init_10 : decode cX5_init 10 = .ok (.putfield 9, 3) := by decide +kernel
theorem dX5_init_13 : decode cX5_init 13 = .ok (.return_, 1) := by decide +kernel
theorem dX5_add_0 : decode cX5_add 0 = .ok (.aload_n 0, 1) := by decide +kernel
theorem dX5_add_1 : decode cX5_add 1 = .ok (.getfield 15, 3) := by decide +kernel
theorem dX5_add_4 : decode cX5_add 4 = .ok (.sipush 160, 3) := by decide +kernel
theorem dX5_add_7 : decode cX5_add 7 = .ok (.if_icmp .lt 6, 3) := by decide +kernel
theorem dX5_add_10 : decode cX5_add 10 = .ok (.bipush (-3), 2) := by decide +kernel
theorem dX5_add_12 : decode cX5_add 12 = .ok (.ireturn, 1) := by decide +kernel
theorem dX5_add_13 : decode cX5_add 13 = .ok (.aload_n 0, 1) := by decide +kernel
theorem dX5_add_14 : decode cX5_add 14 = .ok (.getfield 9, 3) := by decide +kernel
theorem dX5_add_17 : decode cX5_add 17 = .ok (.aload_n 0, 1) := by decide +kernel
theorem dX5_add_18 : decode cX5_add 18 = .ok (.getfield 15, 3) := by decide +kernel
theorem dX5_add_21 : decode cX5_add 21 = .ok (.iload_n 1, 1) := by decide +kernel
theorem dX5_add_22 : decode cX5_add 22 = .ok (.i2b, 1) := by decide +kernel
theorem dX5_add_23 : decode cX5_add 23 = .ok (.bastore, 1) := by decide +kernel
theorem dX5_add_24 : decode cX5_add 24 = .ok (.aload_n 0, 1) := by decide +kernel
theorem dX5_add_25 : decode cX5_add 25 = .ok (.dup, 1) := by decide +kernel
theorem dX5_add_26 : decode cX5_add 26 = .ok (.getfield 15, 3) := by decide +kernel
theorem dX5_add_29 : decode cX5_add 29 = .ok (.iconst 1, 1) := by decide +kernel
theorem dX5_add_30 : decode cX5_add 30 = .ok (.iadd, 1) := by decide +kernel
theorem dX5_add_31 : decode cX5_add 31 = .ok (.putfield 15, 3) := by decide +kernel
theorem dX5_add_34 : decode cX5_add 34 = .ok (.aload_n 0, 1) := by decide +kernel
theorem dX5_add_35 : decode cX5_add 35 = .ok (.getfield 15, 3) := by decide +kernel
theorem dX5_add_38 : decode cX5_add 38 = .ok (.ireturn, 1) := by decide +kernel
theorem dX5_keepFirst_0 : decode cX5_keepFirst 0 = .ok (.aload_n 0, 1) := by decide +kernel
theorem dX5_keepFirst_1 : decode cX5_keepFirst 1 = .ok (.getfield 15, 3) := by decide +kernel
theorem dX5_keepFirst_4 : decode cX5_keepFirst 4 = .ok (.istore_n 2, 1) := by decide +kernel
theorem dX5_keepFirst_5 : decode cX5_keepFirst 5 = .ok (.aload_n 0, 1) := by decide +kernel
theorem dX5_keepFirst_6 : decode cX5_keepFirst 6 = .ok (.iload_n 1, 1) := by decide +kernel
theorem dX5_keepFirst_7 : decode cX5_keepFirst 7 = .ok (.putfield 15, 3) := by decide +kernel
theorem dX5_keepFirst_10 : decode cX5_keepFirst 10 = .ok (.iload_n 2, 1) := by decide +kernel
theorem dX5_keepFirst_11 : decode cX5_keepFirst 11 = .ok (.ireturn, 1) := by decide +kernel
theorem dX6_init_0 : decode cX6_init 0 = .ok (.aload_n 0, 1) := by decide +kernel
theorem dX6_init_1 : decode cX6_init 1 = .ok (.invokespecial 1, 3) := by decide +kernel
theorem dX6_init_4 : decode cX6_init 4 = .ok (.aload_n 0, 1) := by decide +kernel
theorem dX6_init_5 : decode cX6_init 5 = .ok (.new 7, 3) := by decide +kernel
theorem dX6_init_8 : decode cX6_init 8 = .ok (.dup, 1) := by decide +kernel
theorem dX6_init_9 : decode cX6_init 9 = .ok (.invokespecial 9, 3) := by decide +kernel
theorem dX6_init_12 : decode cX6_init 12 = .ok (.putfield 10, 3) := by decide +kernel
theorem dX6_init_15 : decode cX6_init 15 = .ok (.aload_n 0, 1) := by decide +kernel
theorem dX6_init_16 : decode cX6_init 16 = .ok (.new 7, 3) := by decide +kernel
theorem dX6_init_19 : decode cX6_init 19 = .ok (.dup, 1) := by decide +kernel
theorem dX6_init_20 : decode cX6_init 20 = .ok (.invokespecial 9, 3) := by decide +kernel
theorem dX6_init_23 : decode cX6_init 23 = .ok (.putfield 16, 3) := by decide +kernel
theorem dX6_init_26 : decode cX6_init 26 = .ok (.aload_n 0, 1) := by decide +kernel
theorem dX6_init_27 : decode cX6_init 27 = .ok (.iconst 2, 1) := by decide +kernel
theorem dX6_init_28 : decode cX6_init 28 = .ok (.anewarray 7, 3) := by decide +kernel
theorem dX6_init_31 : decode cX6_init 31 = .ok (.dup, 1) := by decide +kernel
theorem dX6_init_32 : decode cX6_init 32 = .ok (.iconst 0, 1) := by decide +kernel
theorem dX6_init_33 : decode cX6_init 33 = .ok (.new 7, 3) := by decide +kernel
theorem dX6_init_36 : decode cX6_init 36 = .ok (.dup, 1) := by decide +kernel
theorem dX6_init_37 : decode cX6_init 37 = .ok (.invokespecial 9, 3) := by decide +kernel
theorem dX6_init_40 : decode cX6_init 40 = .ok (.aastore, 1) := by decide +kernel
theorem dX6_init_41 : decode cX6_init 41 = .ok (.dup, 1) := by decide +kernel
theorem dX6_init_42 : decode cX6_init 42 = .ok (.iconst 1, 1) := by decide +kernel
theorem dX6_init_43 : decode cX6_init 43 = .ok (.new 7, 3) := by decide +kernel
theorem dX6_init_46 : decode cX6_init 46 = .ok (.dup, 1) := by decide +kernel
theorem dX6_init_47 : decode cX6_init 47 = .ok (.invokespecial 9, 3) := by decide +kernel
theorem dX6_init_50 : decode cX6_init 50 = .ok (.aastore, 1) := by decide +kernel
theorem dX6_init_51 : decode cX6_init 51 = .ok (.putfield 19, 3) := by decide +kernel
theorem dX6_init_54 : decode cX6_init 54 = .ok (.aload_n 0, 1) := by decide +kernel
theorem dX6_init_55 : decode cX6_init 55 = .ok (.new 23, 3) := by decide +kernel
theorem dX6_init_58 : decode cX6_init 58 = .ok (.dup, 1) := by decide +kernel
theorem dX6_init_59 : decode cX6_init 59 = .ok (.invokespecial 25, 3) := by decide +kernel
theorem dX6_init_62 : decode cX6_init 62 = .ok (.putfield 26, 3) := by decide +kernel
theorem dX6_init_65 : decode cX6_init 65 = .ok (.aload_n 0, 1) := by decide +kernel
theorem dX6_init_66 : decode cX6_init 66 = .ok (.new 30, 3) := by decide +kernel
theorem dX6_init_69 : decode cX6_init 69 = .ok (.dup, 1) := by decide +kernel
theorem dX6_init_70 : decode cX6_init 70 = .ok (.invokespecial 32, 3) := by decide +kernel
theorem dX6_init_73 : decode cX6_init 73 = .ok (.putfield 33, 3) := by decide +kernel
theorem dX6_init_76 : decode cX6_init 76 = .ok (.aload_n 0, 1) := by decide +kernel
theorem dX6_init_77 : decode cX6_init 77 = .ok (.new 37, 3) := by decide +kernel
theorem dX6_init_80 : decode cX6_init 80 = .ok (.dup, 1) := by decide +kernel
theorem dX6_init_81 : decode cX6_init 81 = .ok (.invokespecial 39, 3) := by decide +kernel
theorem dX6_init_84 : decode cX6_init 84 = .ok (.putfield 40, 3) := by decide +kernel
theorem dX6_init_87 : decode cX6_init 87 = .ok (.aload_n 0, 1) := by decide +kernel
theorem dX6_init_88 : decode cX6_init 88 = .ok (.iconst 4, 1) := by decide +kernel
theorem dX6_init_89 : decode cX6_init 89 = .ok (.anewarray 44, 3) := by decide +kernel
theorem dX6_init_92 : decode cX6_init 92 = .ok (.dup, 1) := by decide +kernel
theorem dX6_init_93 : decode cX6_init 93 = .ok (.iconst 0, 1) := by decide +kernel
theorem dX6_init_94 : decode cX6_init 94 = .ok (.new 44, 3) := by decide +kernel
theorem dX6_init_97 : decode cX6_init 97 = .ok (.dup, 1) := by decide +kernel
theorem dX6_init_98 : decode cX6_init 98 = .ok (.invokespecial 46, 3) := by decide +kernel
theorem dX6_init_101 : decode cX6_init 101 = .ok (.aastore, 1) := by decide +kernel
theorem dX6_init_102 : decode cX6_init 102 = .ok (.dup, 1) := by decide +kernel
theorem dX6_init_103 : decode cX6_init 103 = .ok (.iconst 1, 1) := by decide +kernel
theorem dX6_init_104 : decode cX6_init 104 = .ok (.new 44, 3) := by decide +kernel
theorem dX6_init_107 : decode cX6_init 107 = .ok (.dup, 1) := by decide +kernel
theorem dX6_init_108 : decode cX6_init 108 = .ok (.invokespecial 46, 3) := by decide +kernel
theorem dX6_init_111 : decode cX6_init 111 = .ok (.aastore, 1) := by decide +kernel
theorem dX6_init_112 : decode cX6_init 112 = .ok (.dup, 1) := by decide +kernel
theorem dX6_init_113 : decode cX6_init 113 = .ok (.iconst 2, 1) := by decide +kernel
theorem dX6_init_114 : decode cX6_init 114 = .ok (.new 44, 3) := by decide +kernel
theorem dX6_init_117 : decode cX6_init 117 = .ok (.dup, 1) := by decide +kernel
theorem dX6_init_118 : decode cX6_init 118 = .ok (.invokespecial 46, 3) := by decide +kernel
theorem dX6_init_121 : decode cX6_init 121 = .ok (.aastore, 1) := by decide +kernel
theorem dX6_init_122 : decode cX6_init 122 = .ok (.dup, 1) := by decide +kernel
theorem dX6_init_123 : decode cX6_init 123 = .ok (.iconst 3, 1) := by decide +kernel
theorem dX6_init_124 : decode cX6_init 124 = .ok (.new 44, 3) := by decide +kernel
theorem dX6_init_127 : decode cX6_init 127 = .ok (.dup, 1) := by decide +kernel
theorem dX6_init_128 : decode cX6_init 128 = .ok (.invokespecial 46, 3) := by decide +kernel
theorem dX6_init_131 : decode cX6_init 131 = .ok (.aastore, 1) := by decide +kernel
theorem dX6_init_132 : decode cX6_init 132 = .ok (.putfield 47, 3) := by decide +kernel
theorem dX6_init_135 : decode cX6_init 135 = .ok (.return_, 1) := by decide +kernel
theorem dX6_feed_0 : decode cX6_feed 0 = .ok (.iload_n 1, 1) := by decide +kernel
theorem dX6_feed_1 : decode cX6_feed 1 = .ok (.iconst 0, 1) := by decide +kernel
theorem dX6_feed_2 : decode cX6_feed 2 = .ok (.bipush 127, 2) := by decide +kernel
theorem dX6_feed_4 : decode cX6_feed 4 = .ok (.invokestatic 51, 3) := by decide +kernel
theorem dX6_feed_7 : decode cX6_feed 7 = .ok (.ifCond .eq 17, 3) := by decide +kernel
theorem dX6_feed_10 : decode cX6_feed 10 = .ok (.aload_n 0, 1) := by decide +kernel
theorem dX6_feed_11 : decode cX6_feed 11 = .ok (.getfield 33, 3) := by decide +kernel
theorem dX6_feed_14 : decode cX6_feed 14 = .ok (.getfield 55, 3) := by decide +kernel
theorem dX6_feed_17 : decode cX6_feed 17 = .ok (.iload_n 1, 1) := by decide +kernel
theorem dX6_feed_18 : decode cX6_feed 18 = .ok (.invokevirtual 59, 3) := by decide +kernel
theorem dX6_feed_21 : decode cX6_feed 21 = .ok (.goto 4, 3) := by decide +kernel
theorem dX6_feed_24 : decode cX6_feed 24 = .ok (.iconst (-1), 1) := by decide +kernel
theorem dX6_feed_25 : decode cX6_feed 25 = .ok (.ireturn, 1) := by decide +kernel
theorem dX6_end_0 : decode cX6_end 0 = .ok (.iload_n 1, 1) := by decide +kernel
theorem dX6_end_1 : decode cX6_end 1 = .ok (.iconst 0, 1) := by decide +kernel
theorem dX6_end_2 : decode cX6_end 2 = .ok (.aload_n 0, 1) := by decide +kernel
theorem dX6_end_3 : decode cX6_end 3 = .ok (.getfield 33, 3) := by decide +kernel
theorem dX6_end_6 : decode cX6_end 6 = .ok (.getfield 55, 3) := by decide +kernel
theorem dX6_end_9 : decode cX6_end 9 = .ok (.getfield 65, 3) := by decide +kernel
theorem dX6_end_12 : decode cX6_end 12 = .ok (.invokestatic 51, 3) := by decide +kernel
theorem dX6_end_15 : decode cX6_end 15 = .ok (.ifCond .eq 17, 3) := by decide +kernel
theorem dX6_end_18 : decode cX6_end 18 = .ok (.aload_n 0, 1) := by decide +kernel
theorem dX6_end_19 : decode cX6_end 19 = .ok (.getfield 33, 3) := by decide +kernel
theorem dX6_end_22 : decode cX6_end 22 = .ok (.getfield 55, 3) := by decide +kernel
theorem dX6_end_25 : decode cX6_end 25 = .ok (.iload_n 1, 1) := by decide +kernel
theorem dX6_end_26 : decode cX6_end 26 = .ok (.invokevirtual 69, 3) := by decide +kernel
theorem dX6_end_29 : decode cX6_end 29 = .ok (.goto 4, 3) := by decide +kernel
theorem dX6_end_32 : decode cX6_end 32 = .ok (.iconst (-1), 1) := by decide +kernel
theorem dX6_end_33 : decode cX6_end 33 = .ok (.ireturn, 1) := by decide +kernel
theorem dX6_text_0 : decode cX6_text 0 = .ok (.aload_n 0, 1) := by decide +kernel
theorem dX6_text_1 : decode cX6_text 1 = .ok (.getfield 33, 3) := by decide +kernel
theorem dX6_text_4 : decode cX6_text 4 = .ok (.invokevirtual 72, 3) := by decide +kernel
theorem dX6_text_7 : decode cX6_text 7 = .ok (.istore_n 1, 1) := by decide +kernel
theorem dX6_text_8 : decode cX6_text 8 = .ok (.aload_n 0, 1) := by decide +kernel
theorem dX6_text_9 : decode cX6_text 9 = .ok (.getfield 33, 3) := by decide +kernel
theorem dX6_text_12 : decode cX6_text 12 = .ok (.getfield 55, 3) := by decide +kernel
theorem dX6_text_15 : decode cX6_text 15 = .ok (.iconst 0, 1) := by decide +kernel
theorem dX6_text_16 : decode cX6_text 16 = .ok (.invokevirtual 69, 3) := by decide +kernel
theorem dX6_text_19 : decode cX6_text 19 = .ok (.pop, 1) := by decide +kernel
theorem dX6_text_20 : decode cX6_text 20 = .ok (.aload_n 0, 1) := by decide +kernel
theorem dX6_text_21 : decode cX6_text 21 = .ok (.getfield 33, 3) := by decide +kernel
theorem dX6_text_24 : decode cX6_text 24 = .ok (.getfield 76, 3) := by decide +kernel
theorem dX6_text_27 : decode cX6_text 27 = .ok (.ifCond .eq 14, 3) := by decide +kernel
theorem dX6_text_30 : decode cX6_text 30 = .ok (.bipush (-10), 2) := by decide +kernel
theorem dX6_text_32 : decode cX6_text 32 = .ok (.aload_n 0, 1) := by decide +kernel
theorem dX6_text_33 : decode cX6_text 33 = .ok (.getfield 33, 3) := by decide +kernel
theorem dX6_text_36 : decode cX6_text 36 = .ok (.getfield 79, 3) := by decide +kernel
theorem dX6_text_39 : decode cX6_text 39 = .ok (.isub, 1) := by decide +kernel
theorem dX6_text_40 : decode cX6_text 40 = .ok (.ireturn, 1) := by decide +kernel
theorem dX6_text_41 : decode cX6_text 41 = .ok (.aload_n 0, 1) := by decide +kernel
theorem dX6_text_42 : decode cX6_text 42 = .ok (.getfield 10, 3) := by decide +kernel
theorem dX6_text_45 : decode cX6_text 45 = .ok (.aload_n 0, 1) := by decide +kernel
theorem dX6_text_46 : decode cX6_text 46 = .ok (.getfield 33, 3) := by decide +kernel
theorem dX6_text_49 : decode cX6_text 49 = .ok (.getfield 82, 3) := by decide +kernel
theorem dX6_text_52 : decode cX6_text 52 = .ok (.invokevirtual 85, 3) := by decide +kernel
theorem dX6_text_55 : decode cX6_text 55 = .ok (.aload_n 0, 1) := by decide +kernel
theorem dX6_text_56 : decode cX6_text 56 = .ok (.getfield 40, 3) := by decide +kernel
theorem dX6_text_59 : decode cX6_text 59 = .ok (.iconst 0, 1) := by decide +kernel
theorem dX6_text_60 : decode cX6_text 60 = .ok (.invokevirtual 89, 3) := by decide +kernel
theorem dX6_text_63 : decode cX6_text 63 = .ok (.pop, 1) := by decide +kernel
theorem dX6_text_64 : decode cX6_text 64 = .ok (.aload_n 0, 1) := by decide +kernel
theorem dX6_text_65 : decode cX6_text 65 = .ok (.iconst 0, 1) := by decide +kernel
theorem dX6_text_66 : decode cX6_text 66 = .ok (.putfield 90, 3) := by decide +kernel
theorem dX6_text_69 : decode cX6_text 69 = .ok (.iload_n 1, 1) := by decide +kernel
theorem dX6_text_70 : decode cX6_text 70 = .ok (.ireturn, 1) := by decide +kernel
theorem dX6_fault_0 : decode cX6_fault 0 = .ok (.aload_n 0, 1) := by decide +kernel
theorem dX6_fault_1 : decode cX6_fault 1 = .ok (.getfield 33, 3) := by decide +kernel
theorem dX6_fault_4 : decode cX6_fault 4 = .ok (.getfield 76, 3) := by decide +kernel
theorem dX6_fault_7 : decode cX6_fault 7 = .ok (.ireturn, 1) := by decide +kernel
theorem dX6_rule_0 : decode cX6_rule 0 = .ok (.iload_n 1, 1) := by decide +kernel
theorem dX6_rule_1 : decode cX6_rule 1 = .ok (.tableswitch 87 0 5 #[39, 47, 55, 63, 71, 79], 39) := by decide +kernel
theorem dX6_rule_40 : decode cX6_rule 40 = .ok (.aload_n 0, 1) := by decide +kernel
theorem dX6_rule_41 : decode cX6_rule 41 = .ok (.getfield 10, 3) := by decide +kernel
theorem dX6_rule_44 : decode cX6_rule 44 = .ok (.getfield 93, 3) := by decide +kernel
theorem dX6_rule_47 : decode cX6_rule 47 = .ok (.ireturn, 1) := by decide +kernel
theorem dX6_rule_48 : decode cX6_rule 48 = .ok (.aload_n 0, 1) := by decide +kernel
theorem dX6_rule_49 : decode cX6_rule 49 = .ok (.getfield 10, 3) := by decide +kernel
theorem dX6_rule_52 : decode cX6_rule 52 = .ok (.getfield 96, 3) := by decide +kernel
theorem dX6_rule_55 : decode cX6_rule 55 = .ok (.ireturn, 1) := by decide +kernel
theorem dX6_rule_56 : decode cX6_rule 56 = .ok (.aload_n 0, 1) := by decide +kernel
theorem dX6_rule_57 : decode cX6_rule 57 = .ok (.getfield 10, 3) := by decide +kernel
theorem dX6_rule_60 : decode cX6_rule 60 = .ok (.getfield 99, 3) := by decide +kernel
theorem dX6_rule_63 : decode cX6_rule 63 = .ok (.ireturn, 1) := by decide +kernel
theorem dX6_rule_64 : decode cX6_rule 64 = .ok (.aload_n 0, 1) := by decide +kernel
theorem dX6_rule_65 : decode cX6_rule 65 = .ok (.getfield 10, 3) := by decide +kernel
theorem dX6_rule_68 : decode cX6_rule 68 = .ok (.getfield 102, 3) := by decide +kernel
theorem dX6_rule_71 : decode cX6_rule 71 = .ok (.ireturn, 1) := by decide +kernel
theorem dX6_rule_72 : decode cX6_rule 72 = .ok (.aload_n 0, 1) := by decide +kernel
theorem dX6_rule_73 : decode cX6_rule 73 = .ok (.getfield 10, 3) := by decide +kernel
theorem dX6_rule_76 : decode cX6_rule 76 = .ok (.getfield 105, 3) := by decide +kernel
theorem dX6_rule_79 : decode cX6_rule 79 = .ok (.ireturn, 1) := by decide +kernel
theorem dX6_rule_80 : decode cX6_rule 80 = .ok (.aload_n 0, 1) := by decide +kernel
theorem dX6_rule_81 : decode cX6_rule 81 = .ok (.getfield 10, 3) := by decide +kernel
theorem dX6_rule_84 : decode cX6_rule 84 = .ok (.invokevirtual 108, 3) := by decide +kernel
theorem dX6_rule_87 : decode cX6_rule 87 = .ok (.ireturn, 1) := by decide +kernel
theorem dX6_rule_88 : decode cX6_rule 88 = .ok (.iconst (-1), 1) := by decide +kernel
theorem dX6_rule_89 : decode cX6_rule 89 = .ok (.ireturn, 1) := by decide +kernel
theorem dX6_tree_0 : decode cX6_tree 0 = .ok (.aload_n 0, 1) := by decide +kernel
theorem dX6_tree_1 : decode cX6_tree 1 = .ok (.getfield 10, 3) := by decide +kernel
theorem dX6_tree_4 : decode cX6_tree 4 = .ok (.iload_n 1, 1) := by decide +kernel
theorem dX6_tree_5 : decode cX6_tree 5 = .ok (.invokevirtual 111, 3) := by decide +kernel
theorem dX6_tree_8 : decode cX6_tree 8 = .ok (.ifCond .ne 5, 3) := by decide +kernel
theorem dX6_tree_11 : decode cX6_tree 11 = .ok (.iconst (-1), 1) := by decide +kernel
theorem dX6_tree_12 : decode cX6_tree 12 = .ok (.ireturn, 1) := by decide +kernel
theorem dX6_tree_13 : decode cX6_tree 13 = .ok (.iload_n 2, 1) := by decide +kernel
theorem dX6_tree_14 : decode cX6_tree 14 = .ok (.tableswitch 67 0 3 #[30, 40, 49, 58], 30) := by decide +kernel
theorem dX6_tree_44 : decode cX6_tree 44 = .ok (.aload_n 0, 1) := by decide +kernel
theorem dX6_tree_45 : decode cX6_tree 45 = .ok (.getfield 10, 3) := by decide +kernel
theorem dX6_tree_48 : decode cX6_tree 48 = .ok (.getfield 115, 3) := by decide +kernel
theorem dX6_tree_51 : decode cX6_tree 51 = .ok (.iload_n 1, 1) := by decide +kernel
theorem dX6_tree_52 : decode cX6_tree 52 = .ok (.iaload, 1) := by decide +kernel
theorem dX6_tree_53 : decode cX6_tree 53 = .ok (.ireturn, 1) := by decide +kernel
theorem dX6_tree_54 : decode cX6_tree 54 = .ok (.aload_n 0, 1) := by decide +kernel
theorem dX6_tree_55 : decode cX6_tree 55 = .ok (.getfield 10, 3) := by decide +kernel
theorem dX6_tree_58 : decode cX6_tree 58 = .ok (.iload_n 1, 1) := by decide +kernel
theorem dX6_tree_59 : decode cX6_tree 59 = .ok (.invokevirtual 119, 3) := by decide +kernel
theorem dX6_tree_62 : decode cX6_tree 62 = .ok (.ireturn, 1) := by decide +kernel
theorem dX6_tree_63 : decode cX6_tree 63 = .ok (.aload_n 0, 1) := by decide +kernel
theorem dX6_tree_64 : decode cX6_tree 64 = .ok (.getfield 10, 3) := by decide +kernel
theorem dX6_tree_67 : decode cX6_tree 67 = .ok (.iload_n 1, 1) := by decide +kernel
theorem dX6_tree_68 : decode cX6_tree 68 = .ok (.invokevirtual 122, 3) := by decide +kernel
theorem dX6_tree_71 : decode cX6_tree 71 = .ok (.ireturn, 1) := by decide +kernel
theorem dX6_tree_72 : decode cX6_tree 72 = .ok (.aload_n 0, 1) := by decide +kernel
theorem dX6_tree_73 : decode cX6_tree 73 = .ok (.getfield 10, 3) := by decide +kernel
theorem dX6_tree_76 : decode cX6_tree 76 = .ok (.iload_n 1, 1) := by decide +kernel
theorem dX6_tree_77 : decode cX6_tree 77 = .ok (.invokevirtual 125, 3) := by decide +kernel
theorem dX6_tree_80 : decode cX6_tree 80 = .ok (.ireturn, 1) := by decide +kernel
theorem dX6_tree_81 : decode cX6_tree 81 = .ok (.iconst (-1), 1) := by decide +kernel
theorem dX6_tree_82 : decode cX6_tree 82 = .ok (.ireturn, 1) := by decide +kernel
theorem dX6_root_0 : decode cX6_root 0 = .ok (.aload_n 0, 1) := by decide +kernel
theorem dX6_root_1 : decode cX6_root 1 = .ok (.getfield 10, 3) := by decide +kernel
theorem dX6_root_4 : decode cX6_root 4 = .ok (.iload_n 1, 1) := by decide +kernel
theorem dX6_root_5 : decode cX6_root 5 = .ok (.invokevirtual 128, 3) := by decide +kernel
theorem dX6_root_8 : decode cX6_root 8 = .ok (.ifCond .ne 5, 3) := by decide +kernel
theorem dX6_root_11 : decode cX6_root 11 = .ok (.iconst (-1), 1) := by decide +kernel
theorem dX6_root_12 : decode cX6_root 12 = .ok (.ireturn, 1) := by decide +kernel
theorem dX6_root_13 : decode cX6_root 13 = .ok (.iload_n 2, 1) := by decide +kernel
theorem dX6_root_14 : decode cX6_root 14 = .ok (.tableswitch 77 0 3 #[30, 40, 50, 60], 30) := by decide +kernel
theorem dX6_root_44 : decode cX6_root 44 = .ok (.aload_n 0, 1) := by decide +kernel
theorem dX6_root_45 : decode cX6_root 45 = .ok (.getfield 10, 3) := by decide +kernel
theorem dX6_root_48 : decode cX6_root 48 = .ok (.getfield 131, 3) := by decide +kernel
theorem dX6_root_51 : decode cX6_root 51 = .ok (.iload_n 1, 1) := by decide +kernel
theorem dX6_root_52 : decode cX6_root 52 = .ok (.iaload, 1) := by decide +kernel
theorem dX6_root_53 : decode cX6_root 53 = .ok (.ireturn, 1) := by decide +kernel
theorem dX6_root_54 : decode cX6_root 54 = .ok (.aload_n 0, 1) := by decide +kernel
theorem dX6_root_55 : decode cX6_root 55 = .ok (.getfield 10, 3) := by decide +kernel
theorem dX6_root_58 : decode cX6_root 58 = .ok (.getfield 134, 3) := by decide +kernel
theorem dX6_root_61 : decode cX6_root 61 = .ok (.iload_n 1, 1) := by decide +kernel
theorem dX6_root_62 : decode cX6_root 62 = .ok (.iaload, 1) := by decide +kernel
theorem dX6_root_63 : decode cX6_root 63 = .ok (.ireturn, 1) := by decide +kernel
theorem dX6_root_64 : decode cX6_root 64 = .ok (.aload_n 0, 1) := by decide +kernel
theorem dX6_root_65 : decode cX6_root 65 = .ok (.getfield 10, 3) := by decide +kernel
theorem dX6_root_68 : decode cX6_root 68 = .ok (.getfield 137, 3) := by decide +kernel
theorem dX6_root_71 : decode cX6_root 71 = .ok (.iload_n 1, 1) := by decide +kernel
theorem dX6_root_72 : decode cX6_root 72 = .ok (.iaload, 1) := by decide +kernel
theorem dX6_root_73 : decode cX6_root 73 = .ok (.ireturn, 1) := by decide +kernel
theorem dX6_root_74 : decode cX6_root 74 = .ok (.aload_n 0, 1) := by decide +kernel
theorem dX6_root_75 : decode cX6_root 75 = .ok (.getfield 10, 3) := by decide +kernel
theorem dX6_root_78 : decode cX6_root 78 = .ok (.iload_n 1, 1) := by decide +kernel
theorem dX6_root_79 : decode cX6_root 79 = .ok (.invokevirtual 140, 3) := by decide +kernel
theorem dX6_root_82 : decode cX6_root 82 = .ok (.ifCond .eq 7, 3) := by decide +kernel
theorem dX6_root_85 : decode cX6_root 85 = .ok (.iconst 0, 1) := by decide +kernel
theorem dX6_root_86 : decode cX6_root 86 = .ok (.goto 4, 3) := by decide +kernel
theorem dX6_root_89 : decode cX6_root 89 = .ok (.iconst 1, 1) := by decide +kernel
theorem dX6_root_90 : decode cX6_root 90 = .ok (.ireturn, 1) := by decide +kernel
theorem dX6_root_91 : decode cX6_root 91 = .ok (.iconst (-1), 1) := by decide +kernel
theorem dX6_root_92 : decode cX6_root 92 = .ok (.ireturn, 1) := by decide +kernel
theorem dX6_talk_0 : decode cX6_talk 0 = .ok (.aload_n 0, 1) := by decide +kernel
theorem dX6_talk_1 : decode cX6_talk 1 = .ok (.getfield 10, 3) := by decide +kernel
theorem dX6_talk_4 : decode cX6_talk 4 = .ok (.iload_n 1, 1) := by decide +kernel
theorem dX6_talk_5 : decode cX6_talk 5 = .ok (.invokevirtual 143, 3) := by decide +kernel
theorem dX6_talk_8 : decode cX6_talk 8 = .ok (.ifCond .ne 5, 3) := by decide +kernel
theorem dX6_talk_11 : decode cX6_talk 11 = .ok (.iconst (-1), 1) := by decide +kernel
theorem dX6_talk_12 : decode cX6_talk 12 = .ok (.ireturn, 1) := by decide +kernel
theorem dX6_talk_13 : decode cX6_talk 13 = .ok (.iload_n 2, 1) := by decide +kernel
theorem dX6_talk_14 : decode cX6_talk 14 = .ok (.tableswitch 86 0 3 #[30, 40, 50, 60], 30) := by decide +kernel
theorem dX6_talk_44 : decode cX6_talk 44 = .ok (.aload_n 0, 1) := by decide +kernel
theorem dX6_talk_45 : decode cX6_talk 45 = .ok (.getfield 10, 3) := by decide +kernel
theorem dX6_talk_48 : decode cX6_talk 48 = .ok (.getfield 146, 3) := by decide +kernel
theorem dX6_talk_51 : decode cX6_talk 51 = .ok (.iload_n 1, 1) := by decide +kernel
theorem dX6_talk_52 : decode cX6_talk 52 = .ok (.iaload, 1) := by decide +kernel
theorem dX6_talk_53 : decode cX6_talk 53 = .ok (.ireturn, 1) := by decide +kernel
theorem dX6_talk_54 : decode cX6_talk 54 = .ok (.aload_n 0, 1) := by decide +kernel
theorem dX6_talk_55 : decode cX6_talk 55 = .ok (.getfield 10, 3) := by decide +kernel
theorem dX6_talk_58 : decode cX6_talk 58 = .ok (.getfield 149, 3) := by decide +kernel
theorem dX6_talk_61 : decode cX6_talk 61 = .ok (.iload_n 1, 1) := by decide +kernel
theorem dX6_talk_62 : decode cX6_talk 62 = .ok (.iaload, 1) := by decide +kernel
theorem dX6_talk_63 : decode cX6_talk 63 = .ok (.ireturn, 1) := by decide +kernel
theorem dX6_talk_64 : decode cX6_talk 64 = .ok (.aload_n 0, 1) := by decide +kernel
theorem dX6_talk_65 : decode cX6_talk 65 = .ok (.getfield 10, 3) := by decide +kernel
theorem dX6_talk_68 : decode cX6_talk 68 = .ok (.getfield 152, 3) := by decide +kernel
theorem dX6_talk_71 : decode cX6_talk 71 = .ok (.iload_n 1, 1) := by decide +kernel
theorem dX6_talk_72 : decode cX6_talk 72 = .ok (.iaload, 1) := by decide +kernel
theorem dX6_talk_73 : decode cX6_talk 73 = .ok (.ireturn, 1) := by decide +kernel
theorem dX6_talk_74 : decode cX6_talk 74 = .ok (.aload_n 0, 1) := by decide +kernel
theorem dX6_talk_75 : decode cX6_talk 75 = .ok (.getfield 10, 3) := by decide +kernel
theorem dX6_talk_78 : decode cX6_talk 78 = .ok (.aload_n 0, 1) := by decide +kernel
theorem dX6_talk_79 : decode cX6_talk 79 = .ok (.getfield 10, 3) := by decide +kernel
theorem dX6_talk_82 : decode cX6_talk 82 = .ok (.getfield 149, 3) := by decide +kernel
theorem dX6_talk_85 : decode cX6_talk 85 = .ok (.iload_n 1, 1) := by decide +kernel
theorem dX6_talk_86 : decode cX6_talk 86 = .ok (.iaload, 1) := by decide +kernel
theorem dX6_talk_87 : decode cX6_talk 87 = .ok (.aload_n 0, 1) := by decide +kernel
theorem dX6_talk_88 : decode cX6_talk 88 = .ok (.getfield 10, 3) := by decide +kernel
theorem dX6_talk_91 : decode cX6_talk 91 = .ok (.getfield 152, 3) := by decide +kernel
theorem dX6_talk_94 : decode cX6_talk 94 = .ok (.iload_n 1, 1) := by decide +kernel
theorem dX6_talk_95 : decode cX6_talk 95 = .ok (.iaload, 1) := by decide +kernel
theorem dX6_talk_96 : decode cX6_talk 96 = .ok (.invokevirtual 155, 3) := by decide +kernel
theorem dX6_talk_99 : decode cX6_talk 99 = .ok (.ireturn, 1) := by decide +kernel
theorem dX6_talk_100 : decode cX6_talk 100 = .ok (.iconst (-1), 1) := by decide +kernel
theorem dX6_talk_101 : decode cX6_talk 101 = .ok (.ireturn, 1) := by decide +kernel
theorem dX6_far_0 : decode cX6_far 0 = .ok (.aload_n 0, 1) := by decide +kernel
theorem dX6_far_1 : decode cX6_far 1 = .ok (.getfield 10, 3) := by decide +kernel
theorem dX6_far_4 : decode cX6_far 4 = .ok (.iload_n 1, 1) := by decide +kernel
theorem dX6_far_5 : decode cX6_far 5 = .ok (.invokevirtual 111, 3) := by decide +kernel
theorem dX6_far_8 : decode cX6_far 8 = .ok (.ifCond .eq 14, 3) := by decide +kernel
theorem dX6_far_11 : decode cX6_far 11 = .ok (.aload_n 0, 1) := by decide +kernel
theorem dX6_far_12 : decode cX6_far 12 = .ok (.getfield 10, 3) := by decide +kernel
theorem dX6_far_15 : decode cX6_far 15 = .ok (.iload_n 2, 1) := by decide +kernel
theorem dX6_far_16 : decode cX6_far 16 = .ok (.invokevirtual 111, 3) := by decide +kernel
theorem dX6_far_19 : decode cX6_far 19 = .ok (.ifCond .ne 5, 3) := by decide +kernel
theorem dX6_far_22 : decode cX6_far 22 = .ok (.iconst (-1), 1) := by decide +kernel
theorem dX6_far_23 : decode cX6_far 23 = .ok (.ireturn, 1) := by decide +kernel
theorem dX6_far_24 : decode cX6_far 24 = .ok (.aload_n 0, 1) := by decide +kernel
theorem dX6_far_25 : decode cX6_far 25 = .ok (.getfield 10, 3) := by decide +kernel
theorem dX6_far_28 : decode cX6_far 28 = .ok (.iload_n 1, 1) := by decide +kernel
theorem dX6_far_29 : decode cX6_far 29 = .ok (.invokevirtual 159, 3) := by decide +kernel
theorem dX6_far_32 : decode cX6_far 32 = .ok (.iload_n 2, 1) := by decide +kernel
theorem dX6_far_33 : decode cX6_far 33 = .ok (.iaload, 1) := by decide +kernel
theorem dX6_far_34 : decode cX6_far 34 = .ok (.istore_n 3, 1) := by decide +kernel
theorem dX6_far_35 : decode cX6_far 35 = .ok (.iload_n 3, 1) := by decide +kernel
theorem dX6_far_36 : decode cX6_far 36 = .ok (.sipush 1000, 3) := by decide +kernel
theorem dX6_far_39 : decode cX6_far 39 = .ok (.if_icmp .ne 8, 3) := by decide +kernel
theorem dX6_far_42 : decode cX6_far 42 = .ok (.bipush (-4), 2) := by decide +kernel
theorem dX6_far_44 : decode cX6_far 44 = .ok (.goto 4, 3) := by decide +kernel
theorem dX6_far_47 : decode cX6_far 47 = .ok (.iload_n 3, 1) := by decide +kernel
theorem dX6_far_48 : decode cX6_far 48 = .ok (.ireturn, 1) := by decide +kernel
theorem dX6_loud_0 : decode cX6_loud 0 = .ok (.aload_n 0, 1) := by decide +kernel
theorem dX6_loud_1 : decode cX6_loud 1 = .ok (.getfield 10, 3) := by decide +kernel
theorem dX6_loud_4 : decode cX6_loud 4 = .ok (.iload_n 1, 1) := by decide +kernel
theorem dX6_loud_5 : decode cX6_loud 5 = .ok (.invokevirtual 111, 3) := by decide +kernel
theorem dX6_loud_8 : decode cX6_loud 8 = .ok (.ifCond .eq 21, 3) := by decide +kernel
theorem dX6_loud_11 : decode cX6_loud 11 = .ok (.aload_n 0, 1) := by decide +kernel
theorem dX6_loud_12 : decode cX6_loud 12 = .ok (.getfield 10, 3) := by decide +kernel
theorem dX6_loud_15 : decode cX6_loud 15 = .ok (.iload_n 2, 1) := by decide +kernel
theorem dX6_loud_16 : decode cX6_loud 16 = .ok (.invokevirtual 111, 3) := by decide +kernel
theorem dX6_loud_19 : decode cX6_loud 19 = .ok (.ifCond .eq 10, 3) := by decide +kernel
theorem dX6_loud_22 : decode cX6_loud 22 = .ok (.iload_n 3, 1) := by decide +kernel
theorem dX6_loud_23 : decode cX6_loud 23 = .ok (.invokestatic 163, 3) := by decide +kernel
theorem dX6_loud_26 : decode cX6_loud 26 = .ok (.ifCond .ne 5, 3) := by decide +kernel
theorem dX6_loud_29 : decode cX6_loud 29 = .ok (.iconst (-1), 1) := by decide +kernel
theorem dX6_loud_30 : decode cX6_loud 30 = .ok (.ireturn, 1) := by decide +kernel
theorem dX6_loud_31 : decode cX6_loud 31 = .ok (.aload_n 0, 1) := by decide +kernel
theorem dX6_loud_32 : decode cX6_loud 32 = .ok (.getfield 10, 3) := by decide +kernel
theorem dX6_loud_35 : decode cX6_loud 35 = .ok (.iload_n 2, 1) := by decide +kernel
theorem dX6_loud_36 : decode cX6_loud 36 = .ok (.iload_n 3, 1) := by decide +kernel
theorem dX6_loud_37 : decode cX6_loud 37 = .ok (.aload_n 0, 1) := by decide +kernel
theorem dX6_loud_38 : decode cX6_loud 38 = .ok (.getfield 10, 3) := by decide +kernel
theorem dX6_loud_41 : decode cX6_loud 41 = .ok (.iload_n 1, 1) := by decide +kernel
theorem dX6_loud_42 : decode cX6_loud 42 = .ok (.invokevirtual 159, 3) := by decide +kernel
theorem dX6_loud_45 : decode cX6_loud 45 = .ok (.invokevirtual 166, 3) := by decide +kernel
theorem dX6_loud_48 : decode cX6_loud 48 = .ok (.ireturn, 1) := by decide +kernel
theorem dX6_graft_0 : decode cX6_graft 0 = .ok (.aload_n 0, 1) := by decide +kernel
theorem dX6_graft_1 : decode cX6_graft 1 = .ok (.getfield 10, 3) := by decide +kernel
theorem dX6_graft_4 : decode cX6_graft 4 = .ok (.iload_n 1, 1) := by decide +kernel
theorem dX6_graft_5 : decode cX6_graft 5 = .ok (.invokevirtual 111, 3) := by decide +kernel
theorem dX6_graft_8 : decode cX6_graft 8 = .ok (.ifCond .eq 27, 3) := by decide +kernel
theorem dX6_graft_11 : decode cX6_graft 11 = .ok (.iload_n 2, 1) := by decide +kernel
theorem dX6_graft_12 : decode cX6_graft 12 = .ok (.iconst 0, 1) := by decide +kernel
theorem dX6_graft_13 : decode cX6_graft 13 = .ok (.iconst 3, 1) := by decide +kernel
theorem dX6_graft_14 : decode cX6_graft 14 = .ok (.invokestatic 51, 3) := by decide +kernel
theorem dX6_graft_17 : decode cX6_graft 17 = .ok (.ifCond .eq 18, 3) := by decide +kernel
theorem dX6_graft_20 : decode cX6_graft 20 = .ok (.aload_n 0, 1) := by decide +kernel
theorem dX6_graft_21 : decode cX6_graft 21 = .ok (.getfield 10, 3) := by decide +kernel
theorem dX6_graft_24 : decode cX6_graft 24 = .ok (.getfield 115, 3) := by decide +kernel
theorem dX6_graft_27 : decode cX6_graft 27 = .ok (.iload_n 1, 1) := by decide +kernel
theorem dX6_graft_28 : decode cX6_graft 28 = .ok (.iload_n 2, 1) := by decide +kernel
theorem dX6_graft_29 : decode cX6_graft 29 = .ok (.invokestatic 170, 3) := by decide +kernel
theorem dX6_graft_32 : decode cX6_graft 32 = .ok (.goto 4, 3) := by decide +kernel
theorem dX6_graft_35 : decode cX6_graft 35 = .ok (.iconst (-1), 1) := by decide +kernel
theorem dX6_graft_36 : decode cX6_graft 36 = .ok (.ireturn, 1) := by decide +kernel
theorem dX6_stretch_0 : decode cX6_stretch 0 = .ok (.aload_n 0, 1) := by decide +kernel
theorem dX6_stretch_1 : decode cX6_stretch 1 = .ok (.getfield 10, 3) := by decide +kernel
theorem dX6_stretch_4 : decode cX6_stretch 4 = .ok (.iload_n 1, 1) := by decide +kernel
theorem dX6_stretch_5 : decode cX6_stretch 5 = .ok (.invokevirtual 128, 3) := by decide +kernel
theorem dX6_stretch_8 : decode cX6_stretch 8 = .ok (.ifCond .eq 25, 3) := by decide +kernel
theorem dX6_stretch_11 : decode cX6_stretch 11 = .ok (.iload_n 2, 1) := by decide +kernel
theorem dX6_stretch_12 : decode cX6_stretch 12 = .ok (.invokestatic 174, 3) := by decide +kernel
theorem dX6_stretch_15 : decode cX6_stretch 15 = .ok (.ifCond .eq 18, 3) := by decide +kernel
theorem dX6_stretch_18 : decode cX6_stretch 18 = .ok (.aload_n 0, 1) := by decide +kernel
theorem dX6_stretch_19 : decode cX6_stretch 19 = .ok (.getfield 10, 3) := by decide +kernel
theorem dX6_stretch_22 : decode cX6_stretch 22 = .ok (.getfield 137, 3) := by decide +kernel
theorem dX6_stretch_25 : decode cX6_stretch 25 = .ok (.iload_n 1, 1) := by decide +kernel
theorem dX6_stretch_26 : decode cX6_stretch 26 = .ok (.iload_n 2, 1) := by decide +kernel
theorem dX6_stretch_27 : decode cX6_stretch 27 = .ok (.invokestatic 170, 3) := by decide +kernel
theorem dX6_stretch_30 : decode cX6_stretch 30 = .ok (.goto 4, 3) := by decide +kernel
theorem dX6_stretch_33 : decode cX6_stretch 33 = .ok (.iconst (-1), 1) := by decide +kernel
theorem dX6_stretch_34 : decode cX6_stretch 34 = .ok (.ireturn, 1) := by decide +kernel
theorem dX6_grow_0 : decode cX6_grow 0 = .ok (.aload_n 0, 1) := by decide +kernel
theorem dX6_grow_1 : decode cX6_grow 1 = .ok (.getfield 10, 3) := by decide +kernel
theorem dX6_grow_4 : decode cX6_grow 4 = .ok (.iload_n 1, 1) := by decide +kernel
theorem dX6_grow_5 : decode cX6_grow 5 = .ok (.invokevirtual 111, 3) := by decide +kernel
theorem dX6_grow_8 : decode cX6_grow 8 = .ok (.ifCond .eq 26, 3) := by decide +kernel
theorem dX6_grow_11 : decode cX6_grow 11 = .ok (.aload_n 0, 1) := by decide +kernel
theorem dX6_grow_12 : decode cX6_grow 12 = .ok (.getfield 10, 3) := by decide +kernel
theorem dX6_grow_15 : decode cX6_grow 15 = .ok (.iload_n 2, 1) := by decide +kernel
theorem dX6_grow_16 : decode cX6_grow 16 = .ok (.invokevirtual 111, 3) := by decide +kernel
theorem dX6_grow_19 : decode cX6_grow 19 = .ok (.ifCond .eq 15, 3) := by decide +kernel
theorem dX6_grow_22 : decode cX6_grow 22 = .ok (.iload_n 1, 1) := by decide +kernel
theorem dX6_grow_23 : decode cX6_grow 23 = .ok (.iload_n 2, 1) := by decide +kernel
theorem dX6_grow_24 : decode cX6_grow 24 = .ok (.if_icmp .eq 10, 3) := by decide +kernel
theorem dX6_grow_27 : decode cX6_grow 27 = .ok (.iload_n 3, 1) := by decide +kernel
theorem dX6_grow_28 : decode cX6_grow 28 = .ok (.invokestatic 174, 3) := by decide +kernel
theorem dX6_grow_31 : decode cX6_grow 31 = .ok (.ifCond .ne 5, 3) := by decide +kernel
theorem dX6_grow_34 : decode cX6_grow 34 = .ok (.iconst (-1), 1) := by decide +kernel
theorem dX6_grow_35 : decode cX6_grow 35 = .ok (.ireturn, 1) := by decide +kernel
theorem dX6_grow_36 : decode cX6_grow 36 = .ok (.aload_n 0, 1) := by decide +kernel
theorem dX6_grow_37 : decode cX6_grow 37 = .ok (.getfield 10, 3) := by decide +kernel
theorem dX6_grow_40 : decode cX6_grow 40 = .ok (.iload_n 1, 1) := by decide +kernel
theorem dX6_grow_41 : decode cX6_grow 41 = .ok (.iload_n 2, 1) := by decide +kernel
theorem dX6_grow_42 : decode cX6_grow 42 = .ok (.iload_n 3, 1) := by decide +kernel
theorem dX6_grow_43 : decode cX6_grow 43 = .ok (.invokevirtual 177, 3) := by decide +kernel
theorem dX6_grow_46 : decode cX6_grow 46 = .ok (.ireturn, 1) := by decide +kernel
theorem dX6_cut_0 : decode cX6_cut 0 = .ok (.aload_n 0, 1) := by decide +kernel
theorem dX6_cut_1 : decode cX6_cut 1 = .ok (.getfield 10, 3) := by decide +kernel
theorem dX6_cut_4 : decode cX6_cut 4 = .ok (.iload_n 1, 1) := by decide +kernel
theorem dX6_cut_5 : decode cX6_cut 5 = .ok (.invokevirtual 128, 3) := by decide +kernel
theorem dX6_cut_8 : decode cX6_cut 8 = .ok (.ifCond .ne 5, 3) := by decide +kernel
theorem dX6_cut_11 : decode cX6_cut 11 = .ok (.iconst (-1), 1) := by decide +kernel
theorem dX6_cut_12 : decode cX6_cut 12 = .ok (.ireturn, 1) := by decide +kernel
theorem dX6_cut_13 : decode cX6_cut 13 = .ok (.aload_n 0, 1) := by decide +kernel
theorem dX6_cut_14 : decode cX6_cut 14 = .ok (.getfield 10, 3) := by decide +kernel
theorem dX6_cut_17 : decode cX6_cut 17 = .ok (.iload_n 1, 1) := by decide +kernel
theorem dX6_cut_18 : decode cX6_cut 18 = .ok (.invokevirtual 140, 3) := by decide +kernel
theorem dX6_cut_21 : decode cX6_cut 21 = .ok (.ifCond .eq 7, 3) := by decide +kernel
theorem dX6_cut_24 : decode cX6_cut 24 = .ok (.iconst 0, 1) := by decide +kernel
theorem dX6_cut_25 : decode cX6_cut 25 = .ok (.goto 4, 3) := by decide +kernel
theorem dX6_cut_28 : decode cX6_cut 28 = .ok (.iconst 1, 1) := by decide +kernel
theorem dX6_cut_29 : decode cX6_cut 29 = .ok (.istore_n 3, 1) := by decide +kernel
theorem dX6_cut_30 : decode cX6_cut 30 = .ok (.aload_n 0, 1) := by decide +kernel
theorem dX6_cut_31 : decode cX6_cut 31 = .ok (.getfield 10, 3) := by decide +kernel
theorem dX6_cut_34 : decode cX6_cut 34 = .ok (.iload_n 2, 1) := by decide +kernel
theorem dX6_cut_35 : decode cX6_cut 35 = .ok (.ifCond .eq 17, 3) := by decide +kernel
theorem dX6_cut_38 : decode cX6_cut 38 = .ok (.aload_n 0, 1) := by decide +kernel
theorem dX6_cut_39 : decode cX6_cut 39 = .ok (.getfield 10, 3) := by decide +kernel
theorem dX6_cut_42 : decode cX6_cut 42 = .ok (.getfield 105, 3) := by decide +kernel
theorem dX6_cut_45 : decode cX6_cut 45 = .ok (.iconst 1, 1) := by decide +kernel
theorem dX6_cut_46 : decode cX6_cut 46 = .ok (.iload_n 1, 1) := by decide +kernel
theorem dX6_cut_47 : decode cX6_cut 47 = .ok (.ishl, 1) := by decide +kernel
theorem dX6_cut_48 : decode cX6_cut 48 = .ok (.ior, 1) := by decide +kernel
theorem dX6_cut_49 : decode cX6_cut 49 = .ok (.goto 16, 3) := by decide +kernel
theorem dX6_cut_52 : decode cX6_cut 52 = .ok (.aload_n 0, 1) := by decide +kernel
theorem dX6_cut_53 : decode cX6_cut 53 = .ok (.getfield 10, 3) := by decide +kernel
theorem dX6_cut_56 : decode cX6_cut 56 = .ok (.getfield 105, 3) := by decide +kernel
theorem dX6_cut_59 : decode cX6_cut 59 = .ok (.iconst 1, 1) := by decide +kernel
theorem dX6_cut_60 : decode cX6_cut 60 = .ok (.iload_n 1, 1) := by decide +kernel
theorem dX6_cut_61 : decode cX6_cut 61 = .ok (.ishl, 1) := by decide +kernel
theorem dX6_cut_62 : decode cX6_cut 62 = .ok (.iconst (-1), 1) := by decide +kernel
theorem dX6_cut_63 : decode cX6_cut 63 = .ok (.ixor, 1) := by decide +kernel
theorem dX6_cut_64 : decode cX6_cut 64 = .ok (.iand, 1) := by decide +kernel
theorem dX6_cut_65 : decode cX6_cut 65 = .ok (.putfield 105, 3) := by decide +kernel
theorem dX6_cut_68 : decode cX6_cut 68 = .ok (.iload_n 3, 1) := by decide +kernel
theorem dX6_cut_69 : decode cX6_cut 69 = .ok (.ireturn, 1) := by decide +kernel
theorem dX6_wind_0 : decode cX6_wind 0 = .ok (.iload_n 1, 1) := by decide +kernel
theorem dX6_wind_1 : decode cX6_wind 1 = .ok (.iconst 0, 1) := by decide +kernel
theorem dX6_wind_2 : decode cX6_wind 2 = .ok (.bipush 20, 2) := by decide +kernel
theorem dX6_wind_4 : decode cX6_wind 4 = .ok (.invokestatic 51, 3) := by decide +kernel
theorem dX6_wind_7 : decode cX6_wind 7 = .ok (.ifCond .ne 5, 3) := by decide +kernel
theorem dX6_wind_10 : decode cX6_wind 10 = .ok (.iconst (-1), 1) := by decide +kernel
theorem dX6_wind_11 : decode cX6_wind 11 = .ok (.ireturn, 1) := by decide +kernel
theorem dX6_wind_12 : decode cX6_wind 12 = .ok (.aload_n 0, 1) := by decide +kernel
theorem dX6_wind_13 : decode cX6_wind 13 = .ok (.getfield 10, 3) := by decide +kernel
theorem dX6_wind_16 : decode cX6_wind 16 = .ok (.getfield 99, 3) := by decide +kernel
theorem dX6_wind_19 : decode cX6_wind 19 = .ok (.istore_n 2, 1) := by decide +kernel
theorem dX6_wind_20 : decode cX6_wind 20 = .ok (.aload_n 0, 1) := by decide +kernel
theorem dX6_wind_21 : decode cX6_wind 21 = .ok (.getfield 10, 3) := by decide +kernel
theorem dX6_wind_24 : decode cX6_wind 24 = .ok (.iload_n 1, 1) := by decide +kernel
theorem dX6_wind_25 : decode cX6_wind 25 = .ok (.putfield 99, 3) := by decide +kernel
theorem dX6_wind_28 : decode cX6_wind 28 = .ok (.iload_n 2, 1) := by decide +kernel
theorem dX6_wind_29 : decode cX6_wind 29 = .ok (.ireturn, 1) := by decide +kernel
theorem dX6_book_0 : decode cX6_book 0 = .ok (.iload_n 1, 1) := by decide +kernel
theorem dX6_book_1 : decode cX6_book 1 = .ok (.iconst 0, 1) := by decide +kernel
theorem dX6_book_2 : decode cX6_book 2 = .ok (.bipush 23, 2) := by decide +kernel
theorem dX6_book_4 : decode cX6_book 4 = .ok (.invokestatic 51, 3) := by decide +kernel
theorem dX6_book_7 : decode cX6_book 7 = .ok (.ifCond .eq 21, 3) := by decide +kernel
theorem dX6_book_10 : decode cX6_book 10 = .ok (.aload_n 0, 1) := by decide +kernel
theorem dX6_book_11 : decode cX6_book 11 = .ok (.getfield 10, 3) := by decide +kernel
theorem dX6_book_14 : decode cX6_book 14 = .ok (.iload_n 2, 1) := by decide +kernel
theorem dX6_book_15 : decode cX6_book 15 = .ok (.invokevirtual 111, 3) := by decide +kernel
theorem dX6_book_18 : decode cX6_book 18 = .ok (.ifCond .eq 10, 3) := by decide +kernel
theorem dX6_book_21 : decode cX6_book 21 = .ok (.iload_n 3, 1) := by decide +kernel
theorem dX6_book_22 : decode cX6_book 22 = .ok (.invokestatic 163, 3) := by decide +kernel
theorem dX6_book_25 : decode cX6_book 25 = .ok (.ifCond .ne 5, 3) := by decide +kernel
theorem dX6_book_28 : decode cX6_book 28 = .ok (.iconst (-1), 1) := by decide +kernel
theorem dX6_book_29 : decode cX6_book 29 = .ok (.ireturn, 1) := by decide +kernel
theorem dX6_book_30 : decode cX6_book 30 = .ok (.aload_n 0, 1) := by decide +kernel
theorem dX6_book_31 : decode cX6_book 31 = .ok (.getfield 10, 3) := by decide +kernel
theorem dX6_book_34 : decode cX6_book 34 = .ok (.iload_n 1, 1) := by decide +kernel
theorem dX6_book_35 : decode cX6_book 35 = .ok (.iload_n 2, 1) := by decide +kernel
theorem dX6_book_36 : decode cX6_book 36 = .ok (.iload_n 3, 1) := by decide +kernel
theorem dX6_book_37 : decode cX6_book 37 = .ok (.invokevirtual 181, 3) := by decide +kernel
theorem dX6_book_40 : decode cX6_book 40 = .ok (.ireturn, 1) := by decide +kernel
theorem dX6_shift_0 : decode cX6_shift 0 = .ok (.aload_n 0, 1) := by decide +kernel
theorem dX6_shift_1 : decode cX6_shift 1 = .ok (.getfield 10, 3) := by decide +kernel
theorem dX6_shift_4 : decode cX6_shift 4 = .ok (.iload_n 1, 1) := by decide +kernel
theorem dX6_shift_5 : decode cX6_shift 5 = .ok (.invokevirtual 143, 3) := by decide +kernel
theorem dX6_shift_8 : decode cX6_shift 8 = .ok (.ifCond .ne 5, 3) := by decide +kernel
theorem dX6_shift_11 : decode cX6_shift 11 = .ok (.iconst (-1), 1) := by decide +kernel
theorem dX6_shift_12 : decode cX6_shift 12 = .ok (.ireturn, 1) := by decide +kernel
theorem dX6_shift_13 : decode cX6_shift 13 = .ok (.iload_n 2, 1) := by decide +kernel
theorem dX6_shift_14 : decode cX6_shift 14 = .ok (.tableswitch 105 0 2 #[26, 53, 81], 26) := by decide +kernel
theorem dX6_shift_40 : decode cX6_shift 40 = .ok (.iload_n 3, 1) := by decide +kernel
theorem dX6_shift_41 : decode cX6_shift 41 = .ok (.iconst 0, 1) := by decide +kernel
theorem dX6_shift_42 : decode cX6_shift 42 = .ok (.bipush 23, 2) := by decide +kernel
theorem dX6_shift_44 : decode cX6_shift 44 = .ok (.invokestatic 51, 3) := by decide +kernel
theorem dX6_shift_47 : decode cX6_shift 47 = .ok (.ifCond .eq 18, 3) := by decide +kernel
theorem dX6_shift_50 : decode cX6_shift 50 = .ok (.aload_n 0, 1) := by decide +kernel
theorem dX6_shift_51 : decode cX6_shift 51 = .ok (.getfield 10, 3) := by decide +kernel
theorem dX6_shift_54 : decode cX6_shift 54 = .ok (.getfield 146, 3) := by decide +kernel
theorem dX6_shift_57 : decode cX6_shift 57 = .ok (.iload_n 1, 1) := by decide +kernel
theorem dX6_shift_58 : decode cX6_shift 58 = .ok (.iload_n 3, 1) := by decide +kernel
theorem dX6_shift_59 : decode cX6_shift 59 = .ok (.invokestatic 170, 3) := by decide +kernel
theorem dX6_shift_62 : decode cX6_shift 62 = .ok (.goto 4, 3) := by decide +kernel
theorem dX6_shift_65 : decode cX6_shift 65 = .ok (.iconst (-1), 1) := by decide +kernel
theorem dX6_shift_66 : decode cX6_shift 66 = .ok (.ireturn, 1) := by decide +kernel
theorem dX6_shift_67 : decode cX6_shift 67 = .ok (.aload_n 0, 1) := by decide +kernel
theorem dX6_shift_68 : decode cX6_shift 68 = .ok (.getfield 10, 3) := by decide +kernel
theorem dX6_shift_71 : decode cX6_shift 71 = .ok (.iload_n 3, 1) := by decide +kernel
theorem dX6_shift_72 : decode cX6_shift 72 = .ok (.invokevirtual 111, 3) := by decide +kernel
theorem dX6_shift_75 : decode cX6_shift 75 = .ok (.ifCond .eq 18, 3) := by decide +kernel
theorem dX6_shift_78 : decode cX6_shift 78 = .ok (.aload_n 0, 1) := by decide +kernel
theorem dX6_shift_79 : decode cX6_shift 79 = .ok (.getfield 10, 3) := by decide +kernel
theorem dX6_shift_82 : decode cX6_shift 82 = .ok (.getfield 149, 3) := by decide +kernel
theorem dX6_shift_85 : decode cX6_shift 85 = .ok (.iload_n 1, 1) := by decide +kernel
theorem dX6_shift_86 : decode cX6_shift 86 = .ok (.iload_n 3, 1) := by decide +kernel
theorem dX6_shift_87 : decode cX6_shift 87 = .ok (.invokestatic 170, 3) := by decide +kernel
theorem dX6_shift_90 : decode cX6_shift 90 = .ok (.goto 4, 3) := by decide +kernel
theorem dX6_shift_93 : decode cX6_shift 93 = .ok (.iconst (-1), 1) := by decide +kernel
theorem dX6_shift_94 : decode cX6_shift 94 = .ok (.ireturn, 1) := by decide +kernel
theorem dX6_shift_95 : decode cX6_shift 95 = .ok (.iload_n 3, 1) := by decide +kernel
theorem dX6_shift_96 : decode cX6_shift 96 = .ok (.invokestatic 163, 3) := by decide +kernel
theorem dX6_shift_99 : decode cX6_shift 99 = .ok (.ifCond .eq 18, 3) := by decide +kernel
theorem dX6_shift_102 : decode cX6_shift 102 = .ok (.aload_n 0, 1) := by decide +kernel
theorem dX6_shift_103 : decode cX6_shift 103 = .ok (.getfield 10, 3) := by decide +kernel
theorem dX6_shift_106 : decode cX6_shift 106 = .ok (.getfield 152, 3) := by decide +kernel
theorem dX6_shift_109 : decode cX6_shift 109 = .ok (.iload_n 1, 1) := by decide +kernel
theorem dX6_shift_110 : decode cX6_shift 110 = .ok (.iload_n 3, 1) := by decide +kernel
theorem dX6_shift_111 : decode cX6_shift 111 = .ok (.invokestatic 170, 3) := by decide +kernel
theorem dX6_shift_114 : decode cX6_shift 114 = .ok (.goto 4, 3) := by decide +kernel
theorem dX6_shift_117 : decode cX6_shift 117 = .ok (.iconst (-1), 1) := by decide +kernel
theorem dX6_shift_118 : decode cX6_shift 118 = .ok (.ireturn, 1) := by decide +kernel
theorem dX6_shift_119 : decode cX6_shift 119 = .ok (.iconst (-1), 1) := by decide +kernel
theorem dX6_shift_120 : decode cX6_shift 120 = .ok (.ireturn, 1) := by decide +kernel
theorem dX6_drop_0 : decode cX6_drop 0 = .ok (.iload_n 1, 1) := by decide +kernel
theorem dX6_drop_1 : decode cX6_drop 1 = .ok (.iconst 0, 1) := by decide +kernel
theorem dX6_drop_2 : decode cX6_drop 2 = .ok (.aload_n 0, 1) := by decide +kernel
theorem dX6_drop_3 : decode cX6_drop 3 = .ok (.getfield 10, 3) := by decide +kernel
theorem dX6_drop_6 : decode cX6_drop 6 = .ok (.getfield 102, 3) := by decide +kernel
theorem dX6_drop_9 : decode cX6_drop 9 = .ok (.invokestatic 51, 3) := by decide +kernel
theorem dX6_drop_12 : decode cX6_drop 12 = .ok (.ifCond .eq 14, 3) := by decide +kernel
theorem dX6_drop_15 : decode cX6_drop 15 = .ok (.aload_n 0, 1) := by decide +kernel
theorem dX6_drop_16 : decode cX6_drop 16 = .ok (.getfield 10, 3) := by decide +kernel
theorem dX6_drop_19 : decode cX6_drop 19 = .ok (.iload_n 1, 1) := by decide +kernel
theorem dX6_drop_20 : decode cX6_drop 20 = .ok (.invokevirtual 184, 3) := by decide +kernel
theorem dX6_drop_23 : decode cX6_drop 23 = .ok (.goto 4, 3) := by decide +kernel
theorem dX6_drop_26 : decode cX6_drop 26 = .ok (.iconst (-1), 1) := by decide +kernel
theorem dX6_drop_27 : decode cX6_drop 27 = .ok (.ireturn, 1) := by decide +kernel
theorem dX6_hears_0 : decode cX6_hears 0 = .ok (.aload_n 0, 1) := by decide +kernel
theorem dX6_hears_1 : decode cX6_hears 1 = .ok (.getfield 10, 3) := by decide +kernel
theorem dX6_hears_4 : decode cX6_hears 4 = .ok (.iload_n 1, 1) := by decide +kernel
theorem dX6_hears_5 : decode cX6_hears 5 = .ok (.invokevirtual 111, 3) := by decide +kernel
theorem dX6_hears_8 : decode cX6_hears 8 = .ok (.ifCond .eq 22, 3) := by decide +kernel
theorem dX6_hears_11 : decode cX6_hears 11 = .ok (.iload_n 2, 1) := by decide +kernel
theorem dX6_hears_12 : decode cX6_hears 12 = .ok (.invokestatic 163, 3) := by decide +kernel
theorem dX6_hears_15 : decode cX6_hears 15 = .ok (.ifCond .eq 15, 3) := by decide +kernel
theorem dX6_hears_18 : decode cX6_hears 18 = .ok (.aload_n 0, 1) := by decide +kernel
theorem dX6_hears_19 : decode cX6_hears 19 = .ok (.getfield 10, 3) := by decide +kernel
theorem dX6_hears_22 : decode cX6_hears 22 = .ok (.iload_n 1, 1) := by decide +kernel
theorem dX6_hears_23 : decode cX6_hears 23 = .ok (.iload_n 2, 1) := by decide +kernel
theorem dX6_hears_24 : decode cX6_hears 24 = .ok (.invokevirtual 155, 3) := by decide +kernel
theorem dX6_hears_27 : decode cX6_hears 27 = .ok (.goto 4, 3) := by decide +kernel
theorem dX6_hears_30 : decode cX6_hears 30 = .ok (.iconst (-1), 1) := by decide +kernel
theorem dX6_hears_31 : decode cX6_hears 31 = .ok (.ireturn, 1) := by decide +kernel
theorem dX6_crossed_0 : decode cX6_crossed 0 = .ok (.aload_n 0, 1) := by decide +kernel
theorem dX6_crossed_1 : decode cX6_crossed 1 = .ok (.getfield 10, 3) := by decide +kernel
theorem dX6_crossed_4 : decode cX6_crossed 4 = .ok (.iload_n 1, 1) := by decide +kernel
