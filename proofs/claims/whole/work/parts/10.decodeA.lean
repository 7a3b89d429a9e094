theorem dX0_init_0 : decode cX0_init 0 = .ok (.aload_n 0, 1) := by decide +kernel
theorem dX0_init_1 : decode cX0_init 1 = .ok (.invokespecial 1, 3) := by decide +kernel
theorem dX0_init_4 : decode cX0_init 4 = .ok (.aload_n 0, 1) := by decide +kernel
theorem dX0_init_5 : decode cX0_init 5 = .ok (.iconst 0, 1) := by decide +kernel
theorem dX0_init_6 : decode cX0_init 6 = .ok (.iload_n 1, 1) := by decide +kernel
theorem dX0_init_7 : decode cX0_init 7 = .ok (.invokestatic 7, 3) := by decide +kernel
theorem dX0_init_10 : decode cX0_init 10 = .ok (.newarray .int, 2) := by decide +kernel
theorem dX0_init_12 : decode cX0_init 12 = .ok (.putfield 13, 3) := by decide +kernel
theorem dX0_init_15 : decode cX0_init 15 = .ok (.return_, 1) := by decide +kernel
theorem dX1_givenToOthers_0 : decode cX1_givenToOthers 0 = .ok (.iconst 0, 1) := by decide +kernel
theorem dX1_givenToOthers_1 : decode cX1_givenToOthers 1 = .ok (.istore_n 2, 1) := by decide +kernel
theorem dX1_givenToOthers_2 : decode cX1_givenToOthers 2 = .ok (.iconst 0, 1) := by decide +kernel
theorem dX1_givenToOthers_3 : decode cX1_givenToOthers 3 = .ok (.istore_n 3, 1) := by decide +kernel
theorem dX1_givenToOthers_4 : decode cX1_givenToOthers 4 = .ok (.iload_n 3, 1) := by decide +kernel
theorem dX1_givenToOthers_5 : decode cX1_givenToOthers 5 = .ok (.bipush 6, 2) := by decide +kernel
theorem dX1_givenToOthers_7 : decode cX1_givenToOthers 7 = .ok (.if_icmp .ge 23, 3) := by decide +kernel
theorem dX1_givenToOthers_10 : decode cX1_givenToOthers 10 = .ok (.iload_n 3, 1) := by decide +kernel
theorem dX1_givenToOthers_11 : decode cX1_givenToOthers 11 = .ok (.iload_n 1, 1) := by decide +kernel
theorem dX1_givenToOthers_12 : decode cX1_givenToOthers 12 = .ok (.if_icmp .eq 12, 3) := by decide +kernel
theorem dX1_givenToOthers_15 : decode cX1_givenToOthers 15 = .ok (.iload_n 2, 1) := by decide +kernel
theorem dX1_givenToOthers_16 : decode cX1_givenToOthers 16 = .ok (.aload_n 0, 1) := by decide +kernel
theorem dX1_givenToOthers_17 : decode cX1_givenToOthers 17 = .ok (.getfield 20, 3) := by decide +kernel
theorem dX1_givenToOthers_20 : decode cX1_givenToOthers 20 = .ok (.iload_n 3, 1) := by decide +kernel
theorem dX1_givenToOthers_21 : decode cX1_givenToOthers 21 = .ok (.iaload, 1) := by decide +kernel
theorem dX1_givenToOthers_22 : decode cX1_givenToOthers 22 = .ok (.iadd, 1) := by decide +kernel
theorem dX1_givenToOthers_23 : decode cX1_givenToOthers 23 = .ok (.istore_n 2, 1) := by decide +kernel
theorem dX1_givenToOthers_24 : decode cX1_givenToOthers 24 = .ok (.iinc 3 1, 3) := by decide +kernel
theorem dX1_givenToOthers_27 : decode cX1_givenToOthers 27 = .ok (.goto (-23), 3) := by decide +kernel
theorem dX1_givenToOthers_30 : decode cX1_givenToOthers 30 = .ok (.iload_n 2, 1) := by decide +kernel
theorem dX1_givenToOthers_31 : decode cX1_givenToOthers 31 = .ok (.ireturn, 1) := by decide +kernel
theorem dX1_milesTo_0 : decode cX1_milesTo 0 = .ok (.aload_n 0, 1) := by decide +kernel
theorem dX1_milesTo_1 : decode cX1_milesTo 1 = .ok (.getfield 35, 3) := by decide +kernel
theorem dX1_milesTo_4 : decode cX1_milesTo 4 = .ok (.aload_n 1, 1) := by decide +kernel
theorem dX1_milesTo_5 : decode cX1_milesTo 5 = .ok (.getfield 35, 3) := by decide +kernel
theorem dX1_milesTo_8 : decode cX1_milesTo 8 = .ok (.isub, 1) := by decide +kernel
theorem dX1_milesTo_9 : decode cX1_milesTo 9 = .ok (.invokestatic 38, 3) := by decide +kernel
theorem dX1_milesTo_12 : decode cX1_milesTo 12 = .ok (.aload_n 0, 1) := by decide +kernel
theorem dX1_milesTo_13 : decode cX1_milesTo 13 = .ok (.getfield 44, 3) := by decide +kernel
theorem dX1_milesTo_16 : decode cX1_milesTo 16 = .ok (.aload_n 1, 1) := by decide +kernel
theorem dX1_milesTo_17 : decode cX1_milesTo 17 = .ok (.getfield 44, 3) := by decide +kernel
theorem dX1_milesTo_20 : decode cX1_milesTo 20 = .ok (.isub, 1) := by decide +kernel
theorem dX1_milesTo_21 : decode cX1_milesTo 21 = .ok (.invokestatic 38, 3) := by decide +kernel
theorem dX1_milesTo_24 : decode cX1_milesTo 24 = .ok (.iadd, 1) := by decide +kernel
theorem dX1_milesTo_25 : decode cX1_milesTo 25 = .ok (.ireturn, 1) := by decide +kernel
theorem dX3_init_0 : decode cX3_init 0 = .ok (.aload_n 0, 1) := by decide +kernel
theorem dX3_init_1 : decode cX3_init 1 = .ok (.invokespecial 3, 3) := by decide +kernel
theorem dX3_init_4 : decode cX3_init 4 = .ok (.aload_n 0, 1) := by decide +kernel
theorem dX3_init_5 : decode cX3_init 5 = .ok (.iconst 4, 1) := by decide +kernel
theorem dX3_init_6 : decode cX3_init 6 = .ok (.newarray .int, 2) := by decide +kernel
theorem dX3_init_8 : decode cX3_init 8 = .ok (.putfield 9, 3) := by decide +kernel
theorem dX3_init_11 : decode cX3_init 11 = .ok (.aload_n 0, 1) := by decide +kernel
theorem dX3_init_12 : decode cX3_init 12 = .ok (.bipush 8, 2) := by decide +kernel
theorem dX3_init_14 : decode cX3_init 14 = .ok (.newarray .int, 2) := by decide +kernel
theorem dX3_init_16 : decode cX3_init 16 = .ok (.putfield 15, 3) := by decide +kernel
theorem dX3_init_19 : decode cX3_init 19 = .ok (.aload_n 0, 1) := by decide +kernel
theorem dX3_init_20 : decode cX3_init 20 = .ok (.bipush 9, 2) := by decide +kernel
theorem dX3_init_22 : decode cX3_init 22 = .ok (.newarray .int, 2) := by decide +kernel
theorem dX3_init_24 : decode cX3_init 24 = .ok (.putfield 18, 3) := by decide +kernel
theorem dX3_init_27 : decode cX3_init 27 = .ok (.aload_n 0, 1) := by decide +kernel
theorem dX3_init_28 : decode cX3_init 28 = .ok (.bipush 9, 2) := by decide +kernel
theorem dX3_init_30 : decode cX3_init 30 = .ok (.newarray .int, 2) := by decide +kernel
theorem dX3_init_32 : decode cX3_init 32 = .ok (.putfield 21, 3) := by decide +kernel
theorem dX3_init_35 : decode cX3_init 35 = .ok (.aload_n 0, 1) := by decide +kernel
theorem dX3_init_36 : decode cX3_init 36 = .ok (.bipush 8, 2) := by decide +kernel
theorem dX3_init_38 : decode cX3_init 38 = .ok (.newarray .int, 2) := by decide +kernel
theorem dX3_init_40 : decode cX3_init 40 = .ok (.putfield 24, 3) := by decide +kernel
theorem dX3_init_43 : decode cX3_init 43 = .ok (.aload_n 0, 1) := by decide +kernel
theorem dX3_init_44 : decode cX3_init 44 = .ok (.bipush 8, 2) := by decide +kernel
theorem dX3_init_46 : decode cX3_init 46 = .ok (.newarray .int, 2) := by decide +kernel
theorem dX3_init_48 : decode cX3_init 48 = .ok (.putfield 27, 3) := by decide +kernel
theorem dX3_init_51 : decode cX3_init 51 = .ok (.return_, 1) := by decide +kernel
theorem dX3_circuitOf_0 : decode cX3_circuitOf 0 = .ok (.iload_n 1, 1) := by decide +kernel
theorem dX3_circuitOf_1 : decode cX3_circuitOf 1 = .ok (.ifCond .lt 20, 3) := by decide +kernel
theorem dX3_circuitOf_4 : decode cX3_circuitOf 4 = .ok (.iload_n 1, 1) := by decide +kernel
theorem dX3_circuitOf_5 : decode cX3_circuitOf 5 = .ok (.aload_n 0, 1) := by decide +kernel
theorem dX3_circuitOf_6 : decode cX3_circuitOf 6 = .ok (.getfield 42, 3) := by decide +kernel
theorem dX3_circuitOf_9 : decode cX3_circuitOf 9 = .ok (.if_icmp .ge 12, 3) := by decide +kernel
theorem dX3_circuitOf_12 : decode cX3_circuitOf 12 = .ok (.aload_n 0, 1) := by decide +kernel
theorem dX3_circuitOf_13 : decode cX3_circuitOf 13 = .ok (.getfield 27, 3) := by decide +kernel
theorem dX3_circuitOf_16 : decode cX3_circuitOf 16 = .ok (.iload_n 1, 1) := by decide +kernel
theorem dX3_circuitOf_17 : decode cX3_circuitOf 17 = .ok (.iaload, 1) := by decide +kernel
theorem dX3_circuitOf_18 : decode cX3_circuitOf 18 = .ok (.goto 4, 3) := by decide +kernel
theorem dX3_circuitOf_21 : decode cX3_circuitOf 21 = .ok (.iconst (-1), 1) := by decide +kernel
theorem dX3_circuitOf_22 : decode cX3_circuitOf 22 = .ok (.ireturn, 1) := by decide +kernel
theorem dX3_lay_0 : decode cX3_lay 0 = .ok (.aload_n 0, 1) := by decide +kernel
theorem dX3_lay_1 : decode cX3_lay 1 = .ok (.aload_n 1, 1) := by decide +kernel
theorem dX3_lay_2 : decode cX3_lay 2 = .ok (.getfield 45, 3) := by decide +kernel
theorem dX3_lay_5 : decode cX3_lay 5 = .ok (.bipush 8, 2) := by decide +kernel
theorem dX3_lay_7 : decode cX3_lay 7 = .ok (.invokestatic 50, 3) := by decide +kernel
theorem dX3_lay_10 : decode cX3_lay 10 = .ok (.putfield 42, 3) := by decide +kernel
theorem dX3_lay_13 : decode cX3_lay 13 = .ok (.aload_n 0, 1) := by decide +kernel
theorem dX3_lay_14 : decode cX3_lay 14 = .ok (.aload_n 2, 1) := by decide +kernel
theorem dX3_lay_15 : decode cX3_lay 15 = .ok (.getfield 45, 3) := by decide +kernel
theorem dX3_lay_18 : decode cX3_lay 18 = .ok (.iconst 4, 1) := by decide +kernel
theorem dX3_lay_19 : decode cX3_lay 19 = .ok (.invokestatic 50, 3) := by decide +kernel
theorem dX3_lay_22 : decode cX3_lay 22 = .ok (.putfield 56, 3) := by decide +kernel
theorem dX3_lay_25 : decode cX3_lay 25 = .ok (.iconst 0, 1) := by decide +kernel
theorem dX3_lay_26 : decode cX3_lay 26 = .ok (.istore_n 3, 1) := by decide +kernel
theorem dX3_lay_27 : decode cX3_lay 27 = .ok (.iload_n 3, 1) := by decide +kernel
theorem dX3_lay_28 : decode cX3_lay 28 = .ok (.aload_n 0, 1) := by decide +kernel
theorem dX3_lay_29 : decode cX3_lay 29 = .ok (.getfield 56, 3) := by decide +kernel
theorem dX3_lay_32 : decode cX3_lay 32 = .ok (.if_icmp .ge 21, 3) := by decide +kernel
theorem dX3_lay_35 : decode cX3_lay 35 = .ok (.aload_n 0, 1) := by decide +kernel
theorem dX3_lay_36 : decode cX3_lay 36 = .ok (.getfield 9, 3) := by decide +kernel
theorem dX3_lay_39 : decode cX3_lay 39 = .ok (.iload_n 3, 1) := by decide +kernel
theorem dX3_lay_40 : decode cX3_lay 40 = .ok (.aload_n 2, 1) := by decide +kernel
theorem dX3_lay_41 : decode cX3_lay 41 = .ok (.getfield 59, 3) := by decide +kernel
theorem dX3_lay_44 : decode cX3_lay 44 = .ok (.iload_n 3, 1) := by decide +kernel
theorem dX3_lay_45 : decode cX3_lay 45 = .ok (.iaload, 1) := by decide +kernel
theorem dX3_lay_46 : decode cX3_lay 46 = .ok (.iastore, 1) := by decide +kernel
theorem dX3_lay_47 : decode cX3_lay 47 = .ok (.iinc 3 1, 3) := by decide +kernel
theorem dX3_lay_50 : decode cX3_lay 50 = .ok (.goto (-23), 3) := by decide +kernel
theorem dX3_lay_53 : decode cX3_lay 53 = .ok (.aload_n 0, 1) := by decide +kernel
theorem dX3_lay_54 : decode cX3_lay 54 = .ok (.getfield 18, 3) := by decide +kernel
theorem dX3_lay_57 : decode cX3_lay 57 = .ok (.aload_n 0, 1) := by decide +kernel
theorem dX3_lay_58 : decode cX3_lay 58 = .ok (.getfield 42, 3) := by decide +kernel
theorem dX3_lay_61 : decode cX3_lay 61 = .ok (.iconst 0, 1) := by decide +kernel
theorem dX3_lay_62 : decode cX3_lay 62 = .ok (.iastore, 1) := by decide +kernel
theorem dX3_lay_63 : decode cX3_lay 63 = .ok (.aload_n 0, 1) := by decide +kernel
theorem dX3_lay_64 : decode cX3_lay 64 = .ok (.getfield 21, 3) := by decide +kernel
theorem dX3_lay_67 : decode cX3_lay 67 = .ok (.aload_n 0, 1) := by decide +kernel
theorem dX3_lay_68 : decode cX3_lay 68 = .ok (.getfield 42, 3) := by decide +kernel
theorem dX3_lay_71 : decode cX3_lay 71 = .ok (.iconst 0, 1) := by decide +kernel
theorem dX3_lay_72 : decode cX3_lay 72 = .ok (.iastore, 1) := by decide +kernel
theorem dX3_lay_73 : decode cX3_lay 73 = .ok (.aload_n 0, 1) := by decide +kernel
theorem dX3_lay_74 : decode cX3_lay 74 = .ok (.getfield 42, 3) := by decide +kernel
theorem dX3_lay_77 : decode cX3_lay 77 = .ok (.iconst 1, 1) := by decide +kernel
theorem dX3_lay_78 : decode cX3_lay 78 = .ok (.isub, 1) := by decide +kernel
theorem dX3_lay_79 : decode cX3_lay 79 = .ok (.istore_n 3, 1) := by decide +kernel
theorem dX3_lay_80 : decode cX3_lay 80 = .ok (.iload_n 3, 1) := by decide +kernel
theorem dX3_lay_81 : decode cX3_lay 81 = .ok (.ifCond .lt 65, 3) := by decide +kernel
theorem dX3_lay_84 : decode cX3_lay 84 = .ok (.aload_n 0, 1) := by decide +kernel
theorem dX3_lay_85 : decode cX3_lay 85 = .ok (.getfield 15, 3) := by decide +kernel
theorem dX3_lay_88 : decode cX3_lay 88 = .ok (.iload_n 3, 1) := by decide +kernel
theorem dX3_lay_89 : decode cX3_lay 89 = .ok (.aload_n 1, 1) := by decide +kernel
theorem dX3_lay_90 : decode cX3_lay 90 = .ok (.getfield 59, 3) := by decide +kernel
theorem dX3_lay_93 : decode cX3_lay 93 = .ok (.iload_n 3, 1) := by decide +kernel
theorem dX3_lay_94 : decode cX3_lay 94 = .ok (.iaload, 1) := by decide +kernel
theorem dX3_lay_95 : decode cX3_lay 95 = .ok (.iastore, 1) := by decide +kernel
theorem dX3_lay_96 : decode cX3_lay 96 = .ok (.aload_n 0, 1) := by decide +kernel
theorem dX3_lay_97 : decode cX3_lay 97 = .ok (.getfield 18, 3) := by decide +kernel
theorem dX3_lay_100 : decode cX3_lay 100 = .ok (.iload_n 3, 1) := by decide +kernel
theorem dX3_lay_101 : decode cX3_lay 101 = .ok (.aload_n 0, 1) := by decide +kernel
theorem dX3_lay_102 : decode cX3_lay 102 = .ok (.getfield 18, 3) := by decide +kernel
theorem dX3_lay_105 : decode cX3_lay 105 = .ok (.iload_n 3, 1) := by decide +kernel
theorem dX3_lay_106 : decode cX3_lay 106 = .ok (.iconst 1, 1) := by decide +kernel
theorem dX3_lay_107 : decode cX3_lay 107 = .ok (.iadd, 1) := by decide +kernel
theorem dX3_lay_108 : decode cX3_lay 108 = .ok (.iaload, 1) := by decide +kernel
theorem dX3_lay_109 : decode cX3_lay 109 = .ok (.aload_n 0, 1) := by decide +kernel
theorem dX3_lay_110 : decode cX3_lay 110 = .ok (.getfield 15, 3) := by decide +kernel
theorem dX3_lay_113 : decode cX3_lay 113 = .ok (.iload_n 3, 1) := by decide +kernel
theorem dX3_lay_114 : decode cX3_lay 114 = .ok (.iaload, 1) := by decide +kernel
theorem dX3_lay_115 : decode cX3_lay 115 = .ok (.iadd, 1) := by decide +kernel
theorem dX3_lay_116 : decode cX3_lay 116 = .ok (.iastore, 1) := by decide +kernel
theorem dX3_lay_117 : decode cX3_lay 117 = .ok (.aload_n 0, 1) := by decide +kernel
theorem dX3_lay_118 : decode cX3_lay 118 = .ok (.getfield 21, 3) := by decide +kernel
theorem dX3_lay_121 : decode cX3_lay 121 = .ok (.iload_n 3, 1) := by decide +kernel
theorem dX3_lay_122 : decode cX3_lay 122 = .ok (.aload_n 0, 1) := by decide +kernel
theorem dX3_lay_123 : decode cX3_lay 123 = .ok (.getfield 21, 3) := by decide +kernel
theorem dX3_lay_126 : decode cX3_lay 126 = .ok (.iload_n 3, 1) := by decide +kernel
theorem dX3_lay_127 : decode cX3_lay 127 = .ok (.iconst 1, 1) := by decide +kernel
theorem dX3_lay_128 : decode cX3_lay 128 = .ok (.iadd, 1) := by decide +kernel
theorem dX3_lay_129 : decode cX3_lay 129 = .ok (.iaload, 1) := by decide +kernel
theorem dX3_lay_130 : decode cX3_lay 130 = .ok (.aload_n 0, 1) := by decide +kernel
theorem dX3_lay_131 : decode cX3_lay 131 = .ok (.getfield 15, 3) := by decide +kernel
theorem dX3_lay_134 : decode cX3_lay 134 = .ok (.iload_n 3, 1) := by decide +kernel
theorem dX3_lay_135 : decode cX3_lay 135 = .ok (.iaload, 1) := by decide +kernel
theorem dX3_lay_136 : decode cX3_lay 136 = .ok (.invokestatic 62, 3) := by decide +kernel
theorem dX3_lay_139 : decode cX3_lay 139 = .ok (.iastore, 1) := by decide +kernel
theorem dX3_lay_140 : decode cX3_lay 140 = .ok (.iinc 3 (-1), 3) := by decide +kernel
theorem dX3_lay_143 : decode cX3_lay 143 = .ok (.goto (-63), 3) := by decide +kernel
theorem dX3_lay_146 : decode cX3_lay 146 = .ok (.return_, 1) := by decide +kernel
theorem dX3_keep_0 : decode cX3_keep 0 = .ok (.iload_n 1, 1) := by decide +kernel
theorem dX3_keep_1 : decode cX3_keep 1 = .ok (.aload_n 0, 1) := by decide +kernel
theorem dX3_keep_2 : decode cX3_keep 2 = .ok (.getfield 34, 3) := by decide +kernel
theorem dX3_keep_5 : decode cX3_keep 5 = .ok (.if_icmp .ge 25, 3) := by decide +kernel
theorem dX3_keep_8 : decode cX3_keep 8 = .ok (.aload_n 0, 1) := by decide +kernel
theorem dX3_keep_9 : decode cX3_keep 9 = .ok (.iload_n 1, 1) := by decide +kernel
theorem dX3_keep_10 : decode cX3_keep 10 = .ok (.putfield 34, 3) := by decide +kernel
theorem dX3_keep_13 : decode cX3_keep 13 = .ok (.aload_n 0, 1) := by decide +kernel
theorem dX3_keep_14 : decode cX3_keep 14 = .ok (.getfield 24, 3) := by decide +kernel
theorem dX3_keep_17 : decode cX3_keep 17 = .ok (.iconst 0, 1) := by decide +kernel
theorem dX3_keep_18 : decode cX3_keep 18 = .ok (.aload_n 0, 1) := by decide +kernel
theorem dX3_keep_19 : decode cX3_keep 19 = .ok (.getfield 27, 3) := by decide +kernel
theorem dX3_keep_22 : decode cX3_keep 22 = .ok (.iconst 0, 1) := by decide +kernel
theorem dX3_keep_23 : decode cX3_keep 23 = .ok (.aload_n 0, 1) := by decide +kernel
theorem dX3_keep_24 : decode cX3_keep 24 = .ok (.getfield 42, 3) := by decide +kernel
theorem dX3_keep_27 : decode cX3_keep 27 = .ok (.invokestatic 77, 3) := by decide +kernel
theorem dX3_keep_30 : decode cX3_keep 30 = .ok (.return_, 1) := by decide +kernel
theorem dX3_lackAtLeast_0 : decode cX3_lackAtLeast 0 = .ok (.iconst 0, 1) := by decide +kernel
theorem dX3_lackAtLeast_1 : decode cX3_lackAtLeast 1 = .ok (.istore_n 2, 1) := by decide +kernel
theorem dX3_lackAtLeast_2 : decode cX3_lackAtLeast 2 = .ok (.iconst 0, 1) := by decide +kernel
theorem dX3_lackAtLeast_3 : decode cX3_lackAtLeast 3 = .ok (.istore_n 3, 1) := by decide +kernel
theorem dX3_lackAtLeast_4 : decode cX3_lackAtLeast 4 = .ok (.iconst 0, 1) := by decide +kernel
theorem dX3_lackAtLeast_5 : decode cX3_lackAtLeast 5 = .ok (.istore 4, 2) := by decide +kernel
theorem dX3_lackAtLeast_7 : decode cX3_lackAtLeast 7 = .ok (.iload 4, 2) := by decide +kernel
theorem dX3_lackAtLeast_9 : decode cX3_lackAtLeast 9 = .ok (.aload_n 0, 1) := by decide +kernel
theorem dX3_lackAtLeast_10 : decode cX3_lackAtLeast 10 = .ok (.getfield 56, 3) := by decide +kernel
theorem dX3_lackAtLeast_13 : decode cX3_lackAtLeast 13 = .ok (.if_icmp .ge 31, 3) := by decide +kernel
theorem dX3_lackAtLeast_16 : decode cX3_lackAtLeast 16 = .ok (.iload_n 2, 1) := by decide +kernel
theorem dX3_lackAtLeast_17 : decode cX3_lackAtLeast 17 = .ok (.aload_n 0, 1) := by decide +kernel
theorem dX3_lackAtLeast_18 : decode cX3_lackAtLeast 18 = .ok (.getfield 9, 3) := by decide +kernel
theorem dX3_lackAtLeast_21 : decode cX3_lackAtLeast 21 = .ok (.iload 4, 2) := by decide +kernel
theorem dX3_lackAtLeast_23 : decode cX3_lackAtLeast 23 = .ok (.iaload, 1) := by decide +kernel
theorem dX3_lackAtLeast_24 : decode cX3_lackAtLeast 24 = .ok (.iadd, 1) := by decide +kernel
theorem dX3_lackAtLeast_25 : decode cX3_lackAtLeast 25 = .ok (.istore_n 2, 1) := by decide +kernel
theorem dX3_lackAtLeast_26 : decode cX3_lackAtLeast 26 = .ok (.iload_n 3, 1) := by decide +kernel
theorem dX3_lackAtLeast_27 : decode cX3_lackAtLeast 27 = .ok (.aload_n 0, 1) := by decide +kernel
theorem dX3_lackAtLeast_28 : decode cX3_lackAtLeast 28 = .ok (.getfield 9, 3) := by decide +kernel
theorem dX3_lackAtLeast_31 : decode cX3_lackAtLeast 31 = .ok (.iload 4, 2) := by decide +kernel
theorem dX3_lackAtLeast_33 : decode cX3_lackAtLeast 33 = .ok (.iaload, 1) := by decide +kernel
theorem dX3_lackAtLeast_34 : decode cX3_lackAtLeast 34 = .ok (.invokestatic 62, 3) := by decide +kernel
theorem dX3_lackAtLeast_37 : decode cX3_lackAtLeast 37 = .ok (.istore_n 3, 1) := by decide +kernel
theorem dX3_lackAtLeast_38 : decode cX3_lackAtLeast 38 = .ok (.iinc 4 1, 3) := by decide +kernel
theorem dX3_lackAtLeast_41 : decode cX3_lackAtLeast 41 = .ok (.goto (-34), 3) := by decide +kernel
theorem dX3_lackAtLeast_44 : decode cX3_lackAtLeast 44 = .ok (.iconst 0, 1) := by decide +kernel
theorem dX3_lackAtLeast_45 : decode cX3_lackAtLeast 45 = .ok (.aload_n 0, 1) := by decide +kernel
theorem dX3_lackAtLeast_46 : decode cX3_lackAtLeast 46 = .ok (.getfield 18, 3) := by decide +kernel
theorem dX3_lackAtLeast_49 : decode cX3_lackAtLeast 49 = .ok (.iload_n 1, 1) := by decide +kernel
theorem dX3_lackAtLeast_50 : decode cX3_lackAtLeast 50 = .ok (.iaload, 1) := by decide +kernel
theorem dX3_lackAtLeast_51 : decode cX3_lackAtLeast 51 = .ok (.iload_n 2, 1) := by decide +kernel
theorem dX3_lackAtLeast_52 : decode cX3_lackAtLeast 52 = .ok (.isub, 1) := by decide +kernel
theorem dX3_lackAtLeast_53 : decode cX3_lackAtLeast 53 = .ok (.aload_n 0, 1) := by decide +kernel
theorem dX3_lackAtLeast_54 : decode cX3_lackAtLeast 54 = .ok (.getfield 21, 3) := by decide +kernel
theorem dX3_lackAtLeast_57 : decode cX3_lackAtLeast 57 = .ok (.iload_n 1, 1) := by decide +kernel
theorem dX3_lackAtLeast_58 : decode cX3_lackAtLeast 58 = .ok (.iaload, 1) := by decide +kernel
theorem dX3_lackAtLeast_59 : decode cX3_lackAtLeast 59 = .ok (.iload_n 3, 1) := by decide +kernel
theorem dX3_lackAtLeast_60 : decode cX3_lackAtLeast 60 = .ok (.isub, 1) := by decide +kernel
theorem dX3_lackAtLeast_61 : decode cX3_lackAtLeast 61 = .ok (.invokestatic 62, 3) := by decide +kernel
theorem dX3_lackAtLeast_64 : decode cX3_lackAtLeast 64 = .ok (.invokestatic 62, 3) := by decide +kernel
theorem dX3_lackAtLeast_67 : decode cX3_lackAtLeast 67 = .ok (.ireturn, 1) := by decide +kernel
theorem dX3_isLikeOneAhead_0 : decode cX3_isLikeOneAhead 0 = .ok (.iconst 0, 1) := by decide +kernel
theorem dX3_isLikeOneAhead_1 : decode cX3_isLikeOneAhead 1 = .ok (.istore_n 2, 1) := by decide +kernel
theorem dX3_isLikeOneAhead_2 : decode cX3_isLikeOneAhead 2 = .ok (.iload_n 2, 1) := by decide +kernel
theorem dX3_isLikeOneAhead_3 : decode cX3_isLikeOneAhead 3 = .ok (.iload_n 1, 1) := by decide +kernel
theorem dX3_isLikeOneAhead_4 : decode cX3_isLikeOneAhead 4 = .ok (.if_icmp .ge 26, 3) := by decide +kernel
theorem dX3_isLikeOneAhead_7 : decode cX3_isLikeOneAhead 7 = .ok (.aload_n 0, 1) := by decide +kernel
theorem dX3_isLikeOneAhead_8 : decode cX3_isLikeOneAhead 8 = .ok (.getfield 9, 3) := by decide +kernel
theorem dX3_isLikeOneAhead_11 : decode cX3_isLikeOneAhead 11 = .ok (.iload_n 2, 1) := by decide +kernel
theorem dX3_isLikeOneAhead_12 : decode cX3_isLikeOneAhead 12 = .ok (.iaload, 1) := by decide +kernel
theorem dX3_isLikeOneAhead_13 : decode cX3_isLikeOneAhead 13 = .ok (.aload_n 0, 1) := by decide +kernel
theorem dX3_isLikeOneAhead_14 : decode cX3_isLikeOneAhead 14 = .ok (.getfield 9, 3) := by decide +kernel
theorem dX3_isLikeOneAhead_17 : decode cX3_isLikeOneAhead 17 = .ok (.iload_n 1, 1) := by decide +kernel
theorem dX3_isLikeOneAhead_18 : decode cX3_isLikeOneAhead 18 = .ok (.iaload, 1) := by decide +kernel
theorem dX3_isLikeOneAhead_19 : decode cX3_isLikeOneAhead 19 = .ok (.if_icmp .ne 5, 3) := by decide +kernel
theorem dX3_isLikeOneAhead_22 : decode cX3_isLikeOneAhead 22 = .ok (.iconst 1, 1) := by decide +kernel
theorem dX3_isLikeOneAhead_23 : decode cX3_isLikeOneAhead 23 = .ok (.ireturn, 1) := by decide +kernel
theorem dX3_isLikeOneAhead_24 : decode cX3_isLikeOneAhead 24 = .ok (.iinc 2 1, 3) := by decide +kernel
theorem dX3_isLikeOneAhead_27 : decode cX3_isLikeOneAhead 27 = .ok (.goto (-25), 3) := by decide +kernel
theorem dX3_isLikeOneAhead_30 : decode cX3_isLikeOneAhead 30 = .ok (.iconst 0, 1) := by decide +kernel
theorem dX3_isLikeOneAhead_31 : decode cX3_isLikeOneAhead 31 = .ok (.ireturn, 1) := by decide +kernel
theorem dX4_plan_0 : decode cX4_plan 0 = .ok (.aload_n 0, 1) := by decide +kernel
theorem dX4_plan_1 : decode cX4_plan 1 = .ok (.iload_n 1, 1) := by decide +kernel
theorem dX4_plan_2 : decode cX4_plan 2 = .ok (.putfield 57, 3) := by decide +kernel
theorem dX4_plan_5 : decode cX4_plan 5 = .ok (.aload_n 0, 1) := by decide +kernel
theorem dX4_plan_6 : decode cX4_plan 6 = .ok (.iload_n 2, 1) := by decide +kernel
theorem dX4_plan_7 : decode cX4_plan 7 = .ok (.putfield 60, 3) := by decide +kernel
theorem dX4_plan_10 : decode cX4_plan 10 = .ok (.aload_n 0, 1) := by decide +kernel
theorem dX4_plan_11 : decode cX4_plan 11 = .ok (.iload_n 3, 1) := by decide +kernel
theorem dX4_plan_12 : decode cX4_plan 12 = .ok (.putfield 34, 3) := by decide +kernel
theorem dX4_plan_15 : decode cX4_plan 15 = .ok (.aload_n 0, 1) := by decide +kernel
theorem dX4_plan_16 : decode cX4_plan 16 = .ok (.iload 4, 2) := by decide +kernel
theorem dX4_plan_18 : decode cX4_plan 18 = .ok (.putfield 38, 3) := by decide +kernel
theorem dX4_plan_21 : decode cX4_plan 21 = .ok (.return_, 1) := by decide +kernel
theorem dX5_init_0 : decode cX5_init 0 = .ok (.aload_n 0, 1) := by decide +kernel
theorem dX5_init_1 : decode cX5_init 1 = .ok (.invokespecial 3, 3) := by decide +kernel
theorem dX5_init_4 : decode cX5_init 4 = .ok (.aload_n 0, 1) := by decide +kernel
theorem dX5_init_5 : decode cX5_init 5 = .ok (.sipush 200, 3) := by decide +kernel
theorem dX5_init_8 : decode cX5_init 8 = .ok (.newarray .int, 2) := by decide +kernel
theorem dX5_init_10 : decode cX5_init 10 = .ok (.putfield 9, 3) := by decide +kernel
theorem dX5_init_13 : decode cX5_init 13 = .ok (.return_, 1) := by decide +kernel
theorem dX5_append_0 : decode cX5_append 0 = .ok (.bipush 24, 2) := by decide +kernel
theorem dX5_append_2 : decode cX5_append 2 = .ok (.istore_n 2, 1) := by decide +kernel
theorem dX5_append_3 : decode cX5_append 3 = .ok (.iload_n 2, 1) := by decide +kernel
theorem dX5_append_4 : decode cX5_append 4 = .ok (.ifCond .lt 45, 3) := by decide +kernel
theorem dX5_append_7 : decode cX5_append 7 = .ok (.aload_n 0, 1) := by decide +kernel
theorem dX5_append_8 : decode cX5_append 8 = .ok (.getfield 15, 3) := by decide +kernel
theorem dX5_append_11 : decode cX5_append 11 = .ok (.sipush 200, 3) := by decide +kernel
theorem dX5_append_14 : decode cX5_append 14 = .ok (.if_icmp .ge 35, 3) := by decide +kernel
theorem dX5_append_17 : decode cX5_append 17 = .ok (.aload_n 0, 1) := by decide +kernel
theorem dX5_append_18 : decode cX5_append 18 = .ok (.getfield 9, 3) := by decide +kernel
theorem dX5_append_21 : decode cX5_append 21 = .ok (.aload_n 0, 1) := by decide +kernel
theorem dX5_append_22 : decode cX5_append 22 = .ok (.getfield 15, 3) := by decide +kernel
theorem dX5_append_25 : decode cX5_append 25 = .ok (.iload_n 1, 1) := by decide +kernel
theorem dX5_append_26 : decode cX5_append 26 = .ok (.iload_n 2, 1) := by decide +kernel
theorem dX5_append_27 : decode cX5_append 27 = .ok (.iushr, 1) := by decide +kernel
theorem dX5_append_28 : decode cX5_append 28 = .ok (.sipush 255, 3) := by decide +kernel
theorem dX5_append_31 : decode cX5_append 31 = .ok (.iand, 1) := by decide +kernel
theorem dX5_append_32 : decode cX5_append 32 = .ok (.iastore, 1) := by decide +kernel
theorem dX5_append_33 : decode cX5_append 33 = .ok (.aload_n 0, 1) := by decide +kernel
theorem dX5_append_34 : decode cX5_append 34 = .ok (.dup, 1) := by decide +kernel
theorem dX5_append_35 : decode cX5_append 35 = .ok (.getfield 15, 3) := by decide +kernel
theorem dX5_append_38 : decode cX5_append 38 = .ok (.iconst 1, 1) := by decide +kernel
theorem dX5_append_39 : decode cX5_append 39 = .ok (.iadd, 1) := by decide +kernel
theorem dX5_append_40 : decode cX5_append 40 = .ok (.putfield 15, 3) := by decide +kernel
theorem dX5_append_43 : decode cX5_append 43 = .ok (.iinc 2 (-8), 3) := by decide +kernel
theorem dX5_append_46 : decode cX5_append 46 = .ok (.goto (-43), 3) := by decide +kernel
theorem dX5_append_49 : decode cX5_append 49 = .ok (.return_, 1) := by decide +kernel
theorem dX5_copyFrom_0 : decode cX5_copyFrom 0 = .ok (.aload_n 1, 1) := by decide +kernel
theorem dX5_copyFrom_1 : decode cX5_copyFrom 1 = .ok (.getfield 9, 3) := by decide +kernel
theorem dX5_copyFrom_4 : decode cX5_copyFrom 4 = .ok (.iconst 0, 1) := by decide +kernel
theorem dX5_copyFrom_5 : decode cX5_copyFrom 5 = .ok (.aload_n 0, 1) := by decide +kernel
theorem dX5_copyFrom_6 : decode cX5_copyFrom 6 = .ok (.getfield 9, 3) := by decide +kernel
theorem dX5_copyFrom_9 : decode cX5_copyFrom 9 = .ok (.iconst 0, 1) := by decide +kernel
theorem dX5_copyFrom_10 : decode cX5_copyFrom 10 = .ok (.sipush 200, 3) := by decide +kernel
theorem dX5_copyFrom_13 : decode cX5_copyFrom 13 = .ok (.invokestatic 19, 3) := by decide +kernel
theorem dX5_copyFrom_16 : decode cX5_copyFrom 16 = .ok (.aload_n 0, 1) := by decide +kernel
theorem dX5_copyFrom_17 : decode cX5_copyFrom 17 = .ok (.aload_n 1, 1) := by decide +kernel
theorem dX5_copyFrom_18 : decode cX5_copyFrom 18 = .ok (.getfield 15, 3) := by decide +kernel
theorem dX5_copyFrom_21 : decode cX5_copyFrom 21 = .ok (.putfield 15, 3) := by decide +kernel
theorem dX5_copyFrom_24 : decode cX5_copyFrom 24 = .ok (.return_, 1) := by decide +kernel
theorem dX5_byteAt_0 : decode cX5_byteAt 0 = .ok (.iload_n 1, 1) := by decide +kernel
theorem dX5_byteAt_1 : decode cX5_byteAt 1 = .ok (.ifCond .lt 20, 3) := by decide +kernel
theorem dX5_byteAt_4 : decode cX5_byteAt 4 = .ok (.iload_n 1, 1) := by decide +kernel
theorem dX5_byteAt_5 : decode cX5_byteAt 5 = .ok (.aload_n 0, 1) := by decide +kernel
theorem dX5_byteAt_6 : decode cX5_byteAt 6 = .ok (.getfield 15, 3) := by decide +kernel
theorem dX5_byteAt_9 : decode cX5_byteAt 9 = .ok (.if_icmp .ge 12, 3) := by decide +kernel
theorem dX5_byteAt_12 : decode cX5_byteAt 12 = .ok (.aload_n 0, 1) := by decide +kernel
theorem dX5_byteAt_13 : decode cX5_byteAt 13 = .ok (.getfield 9, 3) := by decide +kernel
theorem dX5_byteAt_16 : decode cX5_byteAt 16 = .ok (.iload_n 1, 1) := by decide +kernel
theorem dX5_byteAt_17 : decode cX5_byteAt 17 = .ok (.iaload, 1) := by decide +kernel
theorem dX5_byteAt_18 : decode cX5_byteAt 18 = .ok (.goto 4, 3) := by decide +kernel
theorem dX5_byteAt_21 : decode cX5_byteAt 21 = .ok (.iconst (-1), 1) := by decide +kernel
theorem dX5_byteAt_22 : decode cX5_byteAt 22 = .ok (.ireturn, 1) := by decide +kernel
theorem dX5_holdsAmps_0 : decode cX5_holdsAmps 0 = .ok (.aload_n 0, 1) := by decide +kernel
theorem dX5_holdsAmps_1 : decode cX5_holdsAmps 1 = .ok (.getfield 15, 3) := by decide +kernel
theorem dX5_holdsAmps_4 : decode cX5_holdsAmps 4 = .ok (.iload_n 1, 1) := by decide +kernel
theorem dX5_holdsAmps_5 : decode cX5_holdsAmps 5 = .ok (.if_icmp .lt 11, 3) := by decide +kernel
theorem dX5_holdsAmps_8 : decode cX5_holdsAmps 8 = .ok (.aload_n 0, 1) := by decide +kernel
theorem dX5_holdsAmps_9 : decode cX5_holdsAmps 9 = .ok (.getfield 15, 3) := by decide +kernel
theorem dX5_holdsAmps_12 : decode cX5_holdsAmps 12 = .ok (.iload_n 2, 1) := by decide +kernel
theorem dX5_holdsAmps_13 : decode cX5_holdsAmps 13 = .ok (.if_icmp .le 5, 3) := by decide +kernel
theorem dX5_holdsAmps_16 : decode cX5_holdsAmps 16 = .ok (.iconst 0, 1) := by decide +kernel
theorem dX5_holdsAmps_17 : decode cX5_holdsAmps 17 = .ok (.ireturn, 1) := by decide +kernel
theorem dX5_holdsAmps_18 : decode cX5_holdsAmps 18 = .ok (.iconst 0, 1) := by decide +kernel
theorem dX5_holdsAmps_19 : decode cX5_holdsAmps 19 = .ok (.istore_n 3, 1) := by decide +kernel
theorem dX5_holdsAmps_20 : decode cX5_holdsAmps 20 = .ok (.iload_n 3, 1) := by decide +kernel
theorem dX5_holdsAmps_21 : decode cX5_holdsAmps 21 = .ok (.aload_n 0, 1) := by decide +kernel
theorem dX5_holdsAmps_22 : decode cX5_holdsAmps 22 = .ok (.getfield 15, 3) := by decide +kernel
theorem dX5_holdsAmps_25 : decode cX5_holdsAmps 25 = .ok (.if_icmp .ge 20, 3) := by decide +kernel
theorem dX5_holdsAmps_28 : decode cX5_holdsAmps 28 = .ok (.aload_n 0, 1) := by decide +kernel
theorem dX5_holdsAmps_29 : decode cX5_holdsAmps 29 = .ok (.getfield 9, 3) := by decide +kernel
theorem dX5_holdsAmps_32 : decode cX5_holdsAmps 32 = .ok (.iload_n 3, 1) := by decide +kernel
theorem dX5_holdsAmps_33 : decode cX5_holdsAmps 33 = .ok (.iaload, 1) := by decide +kernel
theorem dX5_holdsAmps_34 : decode cX5_holdsAmps 34 = .ok (.ifCond .ne 5, 3) := by decide +kernel
theorem dX5_holdsAmps_37 : decode cX5_holdsAmps 37 = .ok (.iconst 0, 1) := by decide +kernel
theorem dX5_holdsAmps_38 : decode cX5_holdsAmps 38 = .ok (.ireturn, 1) := by decide +kernel
theorem dX5_holdsAmps_39 : decode cX5_holdsAmps 39 = .ok (.iinc 3 1, 3) := by decide +kernel
theorem dX5_holdsAmps_42 : decode cX5_holdsAmps 42 = .ok (.goto (-22), 3) := by decide +kernel
theorem dX5_holdsAmps_45 : decode cX5_holdsAmps 45 = .ok (.iconst 1, 1) := by decide +kernel
theorem dX5_holdsAmps_46 : decode cX5_holdsAmps 46 = .ok (.ireturn, 1) := by decide +kernel
theorem dX6_init_0 : decode cX6_init 0 = .ok (.aload_n 0, 1) := by decide +kernel
theorem dX6_init_1 : decode cX6_init 1 = .ok (.invokespecial 3, 3) := by decide +kernel
theorem dX6_init_4 : decode cX6_init 4 = .ok (.aload_n 0, 1) := by decide +kernel
theorem dX6_init_5 : decode cX6_init 5 = .ok (.iconst 3, 1) := by decide +kernel
theorem dX6_init_6 : decode cX6_init 6 = .ok (.newarray .int, 2) := by decide +kernel
theorem dX6_init_8 : decode cX6_init 8 = .ok (.putfield 9, 3) := by decide +kernel
theorem dX6_init_11 : decode cX6_init 11 = .ok (.aload_n 0, 1) := by decide +kernel
theorem dX6_init_12 : decode cX6_init 12 = .ok (.iconst 3, 1) := by decide +kernel
theorem dX6_init_13 : decode cX6_init 13 = .ok (.newarray .int, 2) := by decide +kernel
theorem dX6_init_15 : decode cX6_init 15 = .ok (.putfield 15, 3) := by decide +kernel
theorem dX6_init_18 : decode cX6_init 18 = .ok (.return_, 1) := by decide +kernel
theorem dX6_clear_0 : decode cX6_clear 0 = .ok (.aload_n 0, 1) := by decide +kernel
theorem dX6_clear_1 : decode cX6_clear 1 = .ok (.iconst 0, 1) := by decide +kernel
theorem dX6_clear_2 : decode cX6_clear 2 = .ok (.putfield 18, 3) := by decide +kernel
theorem dX6_clear_5 : decode cX6_clear 5 = .ok (.aload_n 0, 1) := by decide +kernel
theorem dX6_clear_6 : decode cX6_clear 6 = .ok (.iconst 0, 1) := by decide +kernel
theorem dX6_clear_7 : decode cX6_clear 7 = .ok (.putfield 22, 3) := by decide +kernel
theorem dX6_clear_10 : decode cX6_clear 10 = .ok (.aload_n 0, 1) := by decide +kernel
theorem dX6_clear_11 : decode cX6_clear 11 = .ok (.iconst 0, 1) := by decide +kernel
theorem dX6_clear_12 : decode cX6_clear 12 = .ok (.putfield 25, 3) := by decide +kernel
theorem dX6_clear_15 : decode cX6_clear 15 = .ok (.aload_n 0, 1) := by decide +kernel
theorem dX6_clear_16 : decode cX6_clear 16 = .ok (.iconst 0, 1) := by decide +kernel
theorem dX6_clear_17 : decode cX6_clear 17 = .ok (.putfield 28, 3) := by decide +kernel
theorem dX6_clear_20 : decode cX6_clear 20 = .ok (.aload_n 0, 1) := by decide +kernel
theorem dX6_clear_21 : decode cX6_clear 21 = .ok (.iconst 0, 1) := by decide +kernel
theorem dX6_clear_22 : decode cX6_clear 22 = .ok (.putfield 31, 3) := by decide +kernel
theorem dX6_clear_25 : decode cX6_clear 25 = .ok (.return_, 1) := by decide +kernel
theorem dX6_copyFrom_0 : decode cX6_copyFrom 0 = .ok (.aload_n 1, 1) := by decide +kernel
theorem dX6_copyFrom_1 : decode cX6_copyFrom 1 = .ok (.getfield 9, 3) := by decide +kernel
theorem dX6_copyFrom_4 : decode cX6_copyFrom 4 = .ok (.iconst 0, 1) := by decide +kernel
theorem dX6_copyFrom_5 : decode cX6_copyFrom 5 = .ok (.aload_n 0, 1) := by decide +kernel
theorem dX6_copyFrom_6 : decode cX6_copyFrom 6 = .ok (.getfield 9, 3) := by decide +kernel
theorem dX6_copyFrom_9 : decode cX6_copyFrom 9 = .ok (.iconst 0, 1) := by decide +kernel
theorem dX6_copyFrom_10 : decode cX6_copyFrom 10 = .ok (.iconst 3, 1) := by decide +kernel
theorem dX6_copyFrom_11 : decode cX6_copyFrom 11 = .ok (.invokestatic 35, 3) := by decide +kernel
theorem dX6_copyFrom_14 : decode cX6_copyFrom 14 = .ok (.aload_n 1, 1) := by decide +kernel
theorem dX6_copyFrom_15 : decode cX6_copyFrom 15 = .ok (.getfield 15, 3) := by decide +kernel
theorem dX6_copyFrom_18 : decode cX6_copyFrom 18 = .ok (.iconst 0, 1) := by decide +kernel
theorem dX6_copyFrom_19 : decode cX6_copyFrom 19 = .ok (.aload_n 0, 1) := by decide +kernel
theorem dX6_copyFrom_20 : decode cX6_copyFrom 20 = .ok (.getfield 15, 3) := by decide +kernel
theorem dX6_copyFrom_23 : decode cX6_copyFrom 23 = .ok (.iconst 0, 1) := by decide +kernel
theorem dX6_copyFrom_24 : decode cX6_copyFrom 24 = .ok (.iconst 3, 1) := by decide +kernel
theorem dX6_copyFrom_25 : decode cX6_copyFrom 25 = .ok (.invokestatic 35, 3) := by decide +kernel
theorem dX6_copyFrom_28 : decode cX6_copyFrom 28 = .ok (.aload_n 0, 1) := by decide +kernel
theorem dX6_copyFrom_29 : decode cX6_copyFrom 29 = .ok (.aload_n 1, 1) := by decide +kernel
theorem dX6_copyFrom_30 : decode cX6_copyFrom 30 = .ok (.getfield 18, 3) := by decide +kernel
theorem dX6_copyFrom_33 : decode cX6_copyFrom 33 = .ok (.putfield 18, 3) := by decide +kernel
theorem dX6_copyFrom_36 : decode cX6_copyFrom 36 = .ok (.aload_n 0, 1) := by decide +kernel
theorem dX6_copyFrom_37 : decode cX6_copyFrom 37 = .ok (.aload_n 1, 1) := by decide +kernel
theorem dX6_copyFrom_38 : decode cX6_copyFrom 38 = .ok (.getfield 22, 3) := by decide +kernel
theorem dX6_copyFrom_41 : decode cX6_copyFrom 41 = .ok (.putfield 22, 3) := by decide +kernel
theorem dX6_copyFrom_44 : decode cX6_copyFrom 44 = .ok (.aload_n 0, 1) := by decide +kernel
theorem dX6_copyFrom_45 : decode cX6_copyFrom 45 = .ok (.aload_n 1, 1) := by decide +kernel
theorem dX6_copyFrom_46 : decode cX6_copyFrom 46 = .ok (.getfield 25, 3) := by decide +kernel
theorem dX6_copyFrom_49 : decode cX6_copyFrom 49 = .ok (.putfield 25, 3) := by decide +kernel
theorem dX6_copyFrom_52 : decode cX6_copyFrom 52 = .ok (.aload_n 0, 1) := by decide +kernel
theorem dX6_copyFrom_53 : decode cX6_copyFrom 53 = .ok (.aload_n 1, 1) := by decide +kernel
theorem dX6_copyFrom_54 : decode cX6_copyFrom 54 = .ok (.getfield 28, 3) := by decide +kernel
theorem dX6_copyFrom_57 : decode cX6_copyFrom 57 = .ok (.putfield 28, 3) := by decide +kernel
theorem dX6_copyFrom_60 : decode cX6_copyFrom 60 = .ok (.aload_n 0, 1) := by decide +kernel
theorem dX6_copyFrom_61 : decode cX6_copyFrom 61 = .ok (.aload_n 1, 1) := by decide +kernel
theorem dX6_copyFrom_62 : decode cX6_copyFrom 62 = .ok (.getfield 31, 3) := by decide +kernel
theorem dX6_copyFrom_65 : decode cX6_copyFrom 65 = .ok (.putfield 31, 3) := by decide +kernel
theorem dX6_copyFrom_68 : decode cX6_copyFrom 68 = .ok (.return_, 1) := by decide +kernel
theorem dX6_companyHas_0 : decode cX6_companyHas 0 = .ok (.aload_n 0, 1) := by decide +kernel
theorem dX6_companyHas_1 : decode cX6_companyHas 1 = .ok (.getfield 22, 3) := by decide +kernel
theorem dX6_companyHas_4 : decode cX6_companyHas 4 = .ok (.istore_n 2, 1) := by decide +kernel
theorem dX6_companyHas_5 : decode cX6_companyHas 5 = .ok (.iconst 0, 1) := by decide +kernel
theorem dX6_companyHas_6 : decode cX6_companyHas 6 = .ok (.istore_n 3, 1) := by decide +kernel
theorem dX6_companyHas_7 : decode cX6_companyHas 7 = .ok (.iload_n 3, 1) := by decide +kernel
theorem dX6_companyHas_8 : decode cX6_companyHas 8 = .ok (.aload_n 0, 1) := by decide +kernel
theorem dX6_companyHas_9 : decode cX6_companyHas 9 = .ok (.getfield 18, 3) := by decide +kernel
theorem dX6_companyHas_12 : decode cX6_companyHas 12 = .ok (.if_icmp .ge 63, 3) := by decide +kernel
theorem dX6_companyHas_15 : decode cX6_companyHas 15 = .ok (.iload_n 3, 1) := by decide +kernel
theorem dX6_companyHas_16 : decode cX6_companyHas 16 = .ok (.iconst 1, 1) := by decide +kernel
theorem dX6_companyHas_17 : decode cX6_companyHas 17 = .ok (.iadd, 1) := by decide +kernel
theorem dX6_companyHas_18 : decode cX6_companyHas 18 = .ok (.aload_n 0, 1) := by decide +kernel
theorem dX6_companyHas_19 : decode cX6_companyHas 19 = .ok (.getfield 18, 3) := by decide +kernel
theorem dX6_companyHas_22 : decode cX6_companyHas 22 = .ok (.if_icmp .ge 18, 3) := by decide +kernel
theorem dX6_companyHas_25 : decode cX6_companyHas 25 = .ok (.iload_n 1, 1) := by decide +kernel
theorem dX6_companyHas_26 : decode cX6_companyHas 26 = .ok (.aload_n 0, 1) := by decide +kernel
theorem dX6_companyHas_27 : decode cX6_companyHas 27 = .ok (.getfield 15, 3) := by decide +kernel
theorem dX6_companyHas_30 : decode cX6_companyHas 30 = .ok (.iload_n 3, 1) := by decide +kernel
theorem dX6_companyHas_31 : decode cX6_companyHas 31 = .ok (.iconst 1, 1) := by decide +kernel
theorem dX6_companyHas_32 : decode cX6_companyHas 32 = .ok (.iadd, 1) := by decide +kernel
theorem dX6_companyHas_33 : decode cX6_companyHas 33 = .ok (.iaload, 1) := by decide +kernel
theorem dX6_companyHas_34 : decode cX6_companyHas 34 = .ok (.invokestatic 41, 3) := by decide +kernel
theorem dX6_companyHas_37 : decode cX6_companyHas 37 = .ok (.goto 4, 3) := by decide +kernel
theorem dX6_companyHas_40 : decode cX6_companyHas 40 = .ok (.iload_n 1, 1) := by decide +kernel
theorem dX6_companyHas_41 : decode cX6_companyHas 41 = .ok (.istore 4, 2) := by decide +kernel
theorem dX6_companyHas_43 : decode cX6_companyHas 43 = .ok (.iload_n 2, 1) := by decide +kernel
theorem dX6_companyHas_44 : decode cX6_companyHas 44 = .ok (.iconst 0, 1) := by decide +kernel
theorem dX6_companyHas_45 : decode cX6_companyHas 45 = .ok (.iload 4, 2) := by decide +kernel
theorem dX6_companyHas_47 : decode cX6_companyHas 47 = .ok (.aload_n 0, 1) := by decide +kernel
theorem dX6_companyHas_48 : decode cX6_companyHas 48 = .ok (.getfield 15, 3) := by decide +kernel
theorem dX6_companyHas_51 : decode cX6_companyHas 51 = .ok (.iload_n 3, 1) := by decide +kernel
theorem dX6_companyHas_52 : decode cX6_companyHas 52 = .ok (.iaload, 1) := by decide +kernel
theorem dX6_companyHas_53 : decode cX6_companyHas 53 = .ok (.isub, 1) := by decide +kernel
theorem dX6_companyHas_54 : decode cX6_companyHas 54 = .ok (.invokestatic 47, 3) := by decide +kernel
theorem dX6_companyHas_57 : decode cX6_companyHas 57 = .ok (.aload_n 0, 1) := by decide +kernel
theorem dX6_companyHas_58 : decode cX6_companyHas 58 = .ok (.getfield 9, 3) := by decide +kernel
theorem dX6_companyHas_61 : decode cX6_companyHas 61 = .ok (.iload_n 3, 1) := by decide +kernel
theorem dX6_companyHas_62 : decode cX6_companyHas 62 = .ok (.iaload, 1) := by decide +kernel
theorem dX6_companyHas_63 : decode cX6_companyHas 63 = .ok (.imul, 1) := by decide +kernel
theorem dX6_companyHas_64 : decode cX6_companyHas 64 = .ok (.bipush 100, 2) := by decide +kernel
theorem dX6_companyHas_66 : decode cX6_companyHas 66 = .ok (.idiv, 1) := by decide +kernel
theorem dX6_companyHas_67 : decode cX6_companyHas 67 = .ok (.iadd, 1) := by decide +kernel
theorem dX6_companyHas_68 : decode cX6_companyHas 68 = .ok (.istore_n 2, 1) := by decide +kernel
theorem dX6_companyHas_69 : decode cX6_companyHas 69 = .ok (.iinc 3 1, 3) := by decide +kernel
theorem dX6_companyHas_72 : decode cX6_companyHas 72 = .ok (.goto (-65), 3) := by decide +kernel
theorem dX6_companyHas_75 : decode cX6_companyHas 75 = .ok (.iload_n 2, 1) := by decide +kernel
theorem dX6_companyHas_76 : decode cX6_companyHas 76 = .ok (.ireturn, 1) := by decide +kernel
theorem dX6_subsidyOfFee_0 : decode cX6_subsidyOfFee 0 = .ok (.aload_n 0, 1) := by decide +kernel
theorem dX6_subsidyOfFee_1 : decode cX6_subsidyOfFee 1 = .ok (.getfield 28, 3) := by decide +kernel
theorem dX6_subsidyOfFee_4 : decode cX6_subsidyOfFee 4 = .ok (.aload_n 0, 1) := by decide +kernel
theorem dX6_subsidyOfFee_5 : decode cX6_subsidyOfFee 5 = .ok (.getfield 22, 3) := by decide +kernel
theorem dX6_subsidyOfFee_8 : decode cX6_subsidyOfFee 8 = .ok (.aload_n 0, 1) := by decide +kernel
theorem dX6_subsidyOfFee_9 : decode cX6_subsidyOfFee 9 = .ok (.getfield 25, 3) := by decide +kernel
theorem dX6_subsidyOfFee_12 : decode cX6_subsidyOfFee 12 = .ok (.imul, 1) := by decide +kernel
theorem dX6_subsidyOfFee_13 : decode cX6_subsidyOfFee 13 = .ok (.bipush 100, 2) := by decide +kernel
theorem dX6_subsidyOfFee_15 : decode cX6_subsidyOfFee 15 = .ok (.idiv, 1) := by decide +kernel
theorem dX6_subsidyOfFee_16 : decode cX6_subsidyOfFee 16 = .ok (.invokestatic 41, 3) := by decide +kernel
theorem dX6_subsidyOfFee_19 : decode cX6_subsidyOfFee 19 = .ok (.ireturn, 1) := by decide +kernel
theorem dJ6_bitCount_0f7a4_0 : decode cJ6_bitCount_0f7a4 0 = .ok (.iload_n 0, 1) := by decide +kernel
theorem dJ6_bitCount_0f7a4_1 : decode cJ6_bitCount_0f7a4 1 = .ok (.iload_n 0, 1) := by decide +kernel
theorem dJ6_bitCount_0f7a4_2 : decode cJ6_bitCount_0f7a4 2 = .ok (.iconst 1, 1) := by decide +kernel
theorem dJ6_bitCount_0f7a4_3 : decode cJ6_bitCount_0f7a4 3 = .ok (.iushr, 1) := by decide +kernel
theorem dJ6_bitCount_0f7a4_4 : decode cJ6_bitCount_0f7a4 4 = .ok (.ldc_w 265, 3) := by decide +kernel
theorem dJ6_bitCount_0f7a4_7 : decode cJ6_bitCount_0f7a4 7 = .ok (.iand, 1) := by decide +kernel
theorem dJ6_bitCount_0f7a4_8 : decode cJ6_bitCount_0f7a4 8 = .ok (.isub, 1) := by decide +kernel
theorem dJ6_bitCount_0f7a4_9 : decode cJ6_bitCount_0f7a4 9 = .ok (.istore_n 0, 1) := by decide +kernel
theorem dJ6_bitCount_0f7a4_10 : decode cJ6_bitCount_0f7a4 10 = .ok (.iload_n 0, 1) := by decide +kernel
theorem dJ6_bitCount_0f7a4_11 : decode cJ6_bitCount_0f7a4 11 = .ok (.ldc_w 266, 3) := by decide +kernel
theorem dJ6_bitCount_0f7a4_14 : decode cJ6_bitCount_0f7a4 14 = .ok (.iand, 1) := by decide +kernel
theorem dJ6_bitCount_0f7a4_15 : decode cJ6_bitCount_0f7a4 15 = .ok (.iload_n 0, 1) := by decide +kernel
theorem dJ6_bitCount_0f7a4_16 : decode cJ6_bitCount_0f7a4 16 = .ok (.iconst 2, 1) := by decide +kernel
theorem dJ6_bitCount_0f7a4_17 : decode cJ6_bitCount_0f7a4 17 = .ok (.iushr, 1) := by decide +kernel
theorem dJ6_bitCount_0f7a4_18 : decode cJ6_bitCount_0f7a4 18 = .ok (.ldc_w 266, 3) := by decide +kernel
theorem dJ6_bitCount_0f7a4_21 : decode cJ6_bitCount_0f7a4 21 = .ok (.iand, 1) := by decide +kernel
theorem dJ6_bitCount_0f7a4_22 : decode cJ6_bitCount_0f7a4 22 = .ok (.iadd, 1) := by decide +kernel
theorem dJ6_bitCount_0f7a4_23 : decode cJ6_bitCount_0f7a4 23 = .ok (.istore_n 0, 1) := by decide +kernel
theorem dJ6_bitCount_0f7a4_24 : decode cJ6_bitCount_0f7a4 24 = .ok (.iload_n 0, 1) := by decide +kernel
theorem dJ6_bitCount_0f7a4_25 : decode cJ6_bitCount_0f7a4 25 = .ok (.iload_n 0, 1) := by decide +kernel
theorem dJ6_bitCount_0f7a4_26 : decode cJ6_bitCount_0f7a4 26 = .ok (.iconst 4, 1) := by decide +kernel
theorem dJ6_bitCount_0f7a4_27 : decode cJ6_bitCount_0f7a4 27 = .ok (.iushr, 1) := by decide +kernel
theorem dJ6_bitCount_0f7a4_28 : decode cJ6_bitCount_0f7a4 28 = .ok (.iadd, 1) := by decide +kernel
theorem dJ6_bitCount_0f7a4_29 : decode cJ6_bitCount_0f7a4 29 = .ok (.ldc_w 267, 3) := by decide +kernel
theorem dJ6_bitCount_0f7a4_32 : decode cJ6_bitCount_0f7a4 32 = .ok (.iand, 1) := by decide +kernel
theorem dJ6_bitCount_0f7a4_33 : decode cJ6_bitCount_0f7a4 33 = .ok (.istore_n 0, 1) := by decide +kernel
theorem dJ6_bitCount_0f7a4_34 : decode cJ6_bitCount_0f7a4 34 = .ok (.iload_n 0, 1) := by decide +kernel
theorem dJ6_bitCount_0f7a4_35 : decode cJ6_bitCount_0f7a4 35 = .ok (.iload_n 0, 1) := by decide +kernel
theorem dJ6_bitCount_0f7a4_36 : decode cJ6_bitCount_0f7a4 36 = .ok (.bipush 8, 2) := by decide +kernel
theorem dJ6_bitCount_0f7a4_38 : decode cJ6_bitCount_0f7a4 38 = .ok (.iushr, 1) := by decide +kernel
theorem dJ6_bitCount_0f7a4_39 : decode cJ6_bitCount_0f7a4 39 = .ok (.iadd, 1) := by decide +kernel
theorem dJ6_bitCount_0f7a4_40 : decode cJ6_bitCount_0f7a4 40 = .ok (.istore_n 0, 1) := by decide +kernel
theorem dJ6_bitCount_0f7a4_41 : decode cJ6_bitCount_0f7a4 41 = .ok (.iload_n 0, 1) := by decide +kernel
theorem dJ6_bitCount_0f7a4_42 : decode cJ6_bitCount_0f7a4 42 = .ok (.iload_n 0, 1) := by decide +kernel
theorem dJ6_bitCount_0f7a4_43 : decode cJ6_bitCount_0f7a4 43 = .ok (.bipush 16, 2) := by decide +kernel
theorem dJ6_bitCount_0f7a4_45 : decode cJ6_bitCount_0f7a4 45 = .ok (.iushr, 1) := by decide +kernel
theorem dJ6_bitCount_0f7a4_46 : decode cJ6_bitCount_0f7a4 46 = .ok (.iadd, 1) := by decide +kernel
theorem dJ6_bitCount_0f7a4_47 : decode cJ6_bitCount_0f7a4 47 = .ok (.istore_n 0, 1) := by decide +kernel
theorem dJ6_bitCount_0f7a4_48 : decode cJ6_bitCount_0f7a4 48 = .ok (.iload_n 0, 1) := by decide +kernel
theorem dJ6_bitCount_0f7a4_49 : decode cJ6_bitCount_0f7a4 49 = .ok (.bipush 63, 2) := by decide +kernel
theorem dJ6_bitCount_0f7a4_51 : decode cJ6_bitCount_0f7a4 51 = .ok (.iand, 1) := by decide +kernel
theorem dJ6_bitCount_0f7a4_52 : decode cJ6_bitCount_0f7a4 52 = .ok (.ireturn, 1) := by decide +kernel
theorem dJ0_coder_7d493_0 : decode cJ0_coder_7d493 0 = .ok (.getstatic 38, 3) := by decide +kernel
theorem dJ0_coder_7d493_3 : decode cJ0_coder_7d493 3 = .ok (.ifCond .eq 10, 3) := by decide +kernel
theorem dJ0_coder_7d493_6 : decode cJ0_coder_7d493 6 = .ok (.aload_n 0, 1) := by decide +kernel
theorem dJ0_coder_7d493_7 : decode cJ0_coder_7d493 7 = .ok (.getfield 15, 3) := by decide +kernel
theorem dJ0_coder_7d493_10 : decode cJ0_coder_7d493 10 = .ok (.goto 4, 3) := by decide +kernel
theorem dJ0_coder_7d493_13 : decode cJ0_coder_7d493 13 = .ok (.iconst 1, 1) := by decide +kernel
theorem dJ0_coder_7d493_14 : decode cJ0_coder_7d493 14 = .ok (.ireturn, 1) := by decide +kernel
theorem dJ0_isLatin1_aae02_0 : decode cJ0_isLatin1_aae02 0 = .ok (.getstatic 38, 3) := by decide +kernel
theorem dJ0_isLatin1_aae02_3 : decode cJ0_isLatin1_aae02 3 = .ok (.ifCond .eq 14, 3) := by decide +kernel
theorem dJ0_isLatin1_aae02_6 : decode cJ0_isLatin1_aae02 6 = .ok (.aload_n 0, 1) := by decide +kernel
theorem dJ0_isLatin1_aae02_7 : decode cJ0_isLatin1_aae02 7 = .ok (.getfield 15, 3) := by decide +kernel
theorem dJ0_isLatin1_aae02_10 : decode cJ0_isLatin1_aae02 10 = .ok (.ifCond .ne 7, 3) := by decide +kernel
theorem dJ0_isLatin1_aae02_13 : decode cJ0_isLatin1_aae02 13 = .ok (.iconst 1, 1) := by decide +kernel
theorem dJ0_isLatin1_aae02_14 : decode cJ0_isLatin1_aae02 14 = .ok (.goto 4, 3) := by decide +kernel
theorem dJ0_isLatin1_aae02_17 : decode cJ0_isLatin1_aae02 17 = .ok (.iconst 0, 1) := by decide +kernel
theorem dJ0_isLatin1_aae02_18 : decode cJ0_isLatin1_aae02 18 = .ok (.ireturn, 1) := by decide +kernel
theorem dJ7_fill_53178_0 : decode cJ7_fill_53178 0 = .ok (.iconst 0, 1) := by decide +kernel
theorem dJ7_fill_53178_1 : decode cJ7_fill_53178 1 = .ok (.istore_n 2, 1) := by decide +kernel
theorem dJ7_fill_53178_2 : decode cJ7_fill_53178 2 = .ok (.aload_n 0, 1) := by decide +kernel
theorem dJ7_fill_53178_3 : decode cJ7_fill_53178 3 = .ok (.arraylength, 1) := by decide +kernel
theorem dJ7_fill_53178_4 : decode cJ7_fill_53178 4 = .ok (.istore_n 3, 1) := by decide +kernel
theorem dJ7_fill_53178_5 : decode cJ7_fill_53178 5 = .ok (.iload_n 2, 1) := by decide +kernel
theorem dJ7_fill_53178_6 : decode cJ7_fill_53178 6 = .ok (.iload_n 3, 1) := by decide +kernel
theorem dJ7_fill_53178_7 : decode cJ7_fill_53178 7 = .ok (.if_icmp .ge 13, 3) := by decide +kernel
theorem dJ7_fill_53178_10 : decode cJ7_fill_53178 10 = .ok (.aload_n 0, 1) := by decide +kernel
theorem dJ7_fill_53178_11 : decode cJ7_fill_53178 11 = .ok (.iload_n 2, 1) := by decide +kernel
theorem dJ7_fill_53178_12 : decode cJ7_fill_53178 12 = .ok (.iload_n 1, 1) := by decide +kernel
theorem dJ7_fill_53178_13 : decode cJ7_fill_53178 13 = .ok (.iastore, 1) := by decide +kernel
theorem dJ7_fill_53178_14 : decode cJ7_fill_53178 14 = .ok (.iinc 2 1, 3) := by decide +kernel
theorem dJ7_fill_53178_17 : decode cJ7_fill_53178 17 = .ok (.goto (-12), 3) := by decide +kernel
theorem dJ7_fill_53178_20 : decode cJ7_fill_53178 20 = .ok (.return_, 1) := by decide +kernel
theorem dJ3_checkIndex_8e157_0 : decode cJ3_checkIndex_8e157 0 = .ok (.iload_n 0, 1) := by decide +kernel
theorem dJ3_checkIndex_8e157_1 : decode cJ3_checkIndex_8e157 1 = .ok (.ifCond .lt 8, 3) := by decide +kernel
theorem dJ3_checkIndex_8e157_4 : decode cJ3_checkIndex_8e157 4 = .ok (.iload_n 0, 1) := by decide +kernel
theorem dJ3_checkIndex_8e157_5 : decode cJ3_checkIndex_8e157 5 = .ok (.iload_n 1, 1) := by decide +kernel
theorem dJ3_checkIndex_8e157_6 : decode cJ3_checkIndex_8e157 6 = .ok (.if_icmp .lt 10, 3) := by decide +kernel
theorem dJ3_checkIndex_8e157_9 : decode cJ3_checkIndex_8e157 9 = .ok (.aload_n 2, 1) := by decide +kernel
theorem dJ3_checkIndex_8e157_10 : decode cJ3_checkIndex_8e157 10 = .ok (.iload_n 0, 1) := by decide +kernel
theorem dJ3_checkIndex_8e157_11 : decode cJ3_checkIndex_8e157 11 = .ok (.iload_n 1, 1) := by decide +kernel
theorem dJ3_checkIndex_8e157_12 : decode cJ3_checkIndex_8e157 12 = .ok (.invokestatic 95, 3) := by decide +kernel
theorem dJ3_checkIndex_8e157_15 : decode cJ3_checkIndex_8e157 15 = .ok (.athrow, 1) := by decide +kernel
theorem dJ3_checkIndex_8e157_16 : decode cJ3_checkIndex_8e157 16 = .ok (.iload_n 0, 1) := by decide +kernel
theorem dJ3_checkIndex_8e157_17 : decode cJ3_checkIndex_8e157 17 = .ok (.ireturn, 1) := by decide +kernel
theorem dX0_take_0 : decode cX0_take 0 = .ok (.aload_n 0, 1) := by decide +kernel
theorem dX0_take_1 : decode cX0_take 1 = .ok (.aload_n 1, 1) := by decide +kernel
theorem dX0_take_2 : decode cX0_take 2 = .ok (.getfield 19, 3) := by decide +kernel
theorem dX0_take_5 : decode cX0_take 5 = .ok (.aload_n 0, 1) := by decide +kernel
theorem dX0_take_6 : decode cX0_take 6 = .ok (.getfield 13, 3) := by decide +kernel
theorem dX0_take_9 : decode cX0_take 9 = .ok (.arraylength, 1) := by decide +kernel
theorem dX0_take_10 : decode cX0_take 10 = .ok (.invokestatic 25, 3) := by decide +kernel
theorem dX0_take_13 : decode cX0_take 13 = .ok (.putfield 28, 3) := by decide +kernel
theorem dX0_take_16 : decode cX0_take 16 = .ok (.iconst 0, 1) := by decide +kernel
theorem dX0_take_17 : decode cX0_take 17 = .ok (.istore_n 2, 1) := by decide +kernel
theorem dX0_take_18 : decode cX0_take 18 = .ok (.iload_n 2, 1) := by decide +kernel
theorem dX0_take_19 : decode cX0_take 19 = .ok (.aload_n 0, 1) := by decide +kernel
theorem dX0_take_20 : decode cX0_take 20 = .ok (.getfield 28, 3) := by decide +kernel
theorem dX0_take_23 : decode cX0_take 23 = .ok (.if_icmp .ge 20, 3) := by decide +kernel
theorem dX0_take_26 : decode cX0_take 26 = .ok (.aload_n 0, 1) := by decide +kernel
theorem dX0_take_27 : decode cX0_take 27 = .ok (.getfield 13, 3) := by decide +kernel
theorem dX0_take_30 : decode cX0_take 30 = .ok (.iload_n 2, 1) := by decide +kernel
theorem dX0_take_31 : decode cX0_take 31 = .ok (.aload_n 1, 1) := by decide +kernel
theorem dX0_take_32 : decode cX0_take 32 = .ok (.iload_n 2, 1) := by decide +kernel
theorem dX0_take_33 : decode cX0_take 33 = .ok (.invokevirtual 31, 3) := by decide +kernel
theorem dX0_take_36 : decode cX0_take 36 = .ok (.iastore, 1) := by decide +kernel
theorem dX0_take_37 : decode cX0_take 37 = .ok (.iinc 2 1, 3) := by decide +kernel
theorem dX0_take_40 : decode cX0_take 40 = .ok (.goto (-22), 3) := by decide +kernel
theorem dX0_take_43 : decode cX0_take 43 = .ok (.return_, 1) := by decide +kernel
theorem dX1_init_0 : decode cX1_init 0 = .ok (.aload_n 0, 1) := by decide +kernel
theorem dX1_init_1 : decode cX1_init 1 = .ok (.invokespecial 3, 3) := by decide +kernel
theorem dX1_init_4 : decode cX1_init 4 = .ok (.aload_n 0, 1) := by decide +kernel
theorem dX1_init_5 : decode cX1_init 5 = .ok (.new 9, 3) := by decide +kernel
theorem dX1_init_8 : decode cX1_init 8 = .ok (.dup, 1) := by decide +kernel
theorem dX1_init_9 : decode cX1_init 9 = .ok (.iconst 4, 1) := by decide +kernel
theorem dX1_init_10 : decode cX1_init 10 = .ok (.invokespecial 11, 3) := by decide +kernel
theorem dX1_init_13 : decode cX1_init 13 = .ok (.putfield 14, 3) := by decide +kernel
theorem dX1_init_16 : decode cX1_init 16 = .ok (.aload_n 0, 1) := by decide +kernel
theorem dX1_init_17 : decode cX1_init 17 = .ok (.bipush 6, 2) := by decide +kernel
theorem dX1_init_19 : decode cX1_init 19 = .ok (.newarray .int, 2) := by decide +kernel
theorem dX1_init_21 : decode cX1_init 21 = .ok (.putfield 20, 3) := by decide +kernel
theorem dX1_init_24 : decode cX1_init 24 = .ok (.return_, 1) := by decide +kernel
theorem dX3_search_0 : decode cX3_search 0 = .ok (.iload_n 1, 1) := by decide +kernel
theorem dX3_search_1 : decode cX3_search 1 = .ok (.aload_n 0, 1) := by decide +kernel
theorem dX3_search_2 : decode cX3_search 2 = .ok (.getfield 42, 3) := by decide +kernel
theorem dX3_search_5 : decode cX3_search 5 = .ok (.if_icmp .lt 9, 3) := by decide +kernel
theorem dX3_search_8 : decode cX3_search 8 = .ok (.aload_n 0, 1) := by decide +kernel
theorem dX3_search_9 : decode cX3_search 9 = .ok (.iload_n 2, 1) := by decide +kernel
theorem dX3_search_10 : decode cX3_search 10 = .ok (.invokevirtual 65, 3) := by decide +kernel
theorem dX3_search_13 : decode cX3_search 13 = .ok (.return_, 1) := by decide +kernel
theorem dX3_search_14 : decode cX3_search 14 = .ok (.iload_n 2, 1) := by decide +kernel
theorem dX3_search_15 : decode cX3_search 15 = .ok (.aload_n 0, 1) := by decide +kernel
theorem dX3_search_16 : decode cX3_search 16 = .ok (.iload_n 1, 1) := by decide +kernel
theorem dX3_search_17 : decode cX3_search 17 = .ok (.invokevirtual 69, 3) := by decide +kernel
theorem dX3_search_20 : decode cX3_search 20 = .ok (.iadd, 1) := by decide +kernel
theorem dX3_search_21 : decode cX3_search 21 = .ok (.aload_n 0, 1) := by decide +kernel
theorem dX3_search_22 : decode cX3_search 22 = .ok (.getfield 34, 3) := by decide +kernel
theorem dX3_search_25 : decode cX3_search 25 = .ok (.if_icmp .lt 4, 3) := by decide +kernel
theorem dX3_search_28 : decode cX3_search 28 = .ok (.return_, 1) := by decide +kernel
theorem dX3_search_29 : decode cX3_search 29 = .ok (.aload_n 0, 1) := by decide +kernel
theorem dX3_search_30 : decode cX3_search 30 = .ok (.getfield 15, 3) := by decide +kernel
theorem dX3_search_33 : decode cX3_search 33 = .ok (.iload_n 1, 1) := by decide +kernel
theorem dX3_search_34 : decode cX3_search 34 = .ok (.iaload, 1) := by decide +kernel
theorem dX3_search_35 : decode cX3_search 35 = .ok (.istore_n 3, 1) := by decide +kernel
theorem dX3_search_36 : decode cX3_search 36 = .ok (.iconst 0, 1) := by decide +kernel
theorem dX3_search_37 : decode cX3_search 37 = .ok (.istore 4, 2) := by decide +kernel
theorem dX3_search_39 : decode cX3_search 39 = .ok (.iload 4, 2) := by decide +kernel
theorem dX3_search_41 : decode cX3_search 41 = .ok (.aload_n 0, 1) := by decide +kernel
theorem dX3_search_42 : decode cX3_search 42 = .ok (.getfield 56, 3) := by decide +kernel
theorem dX3_search_45 : decode cX3_search 45 = .ok (.if_icmp .ge 79, 3) := by decide +kernel
theorem dX3_search_48 : decode cX3_search 48 = .ok (.aload_n 0, 1) := by decide +kernel
theorem dX3_search_49 : decode cX3_search 49 = .ok (.iload 4, 2) := by decide +kernel
theorem dX3_search_51 : decode cX3_search 51 = .ok (.invokevirtual 73, 3) := by decide +kernel
theorem dX3_search_54 : decode cX3_search 54 = .ok (.ifCond .eq 6, 3) := by decide +kernel
theorem dX3_search_57 : decode cX3_search 57 = .ok (.goto 61, 3) := by decide +kernel
theorem dX3_search_60 : decode cX3_search 60 = .ok (.aload_n 0, 1) := by decide +kernel
theorem dX3_search_61 : decode cX3_search 61 = .ok (.getfield 9, 3) := by decide +kernel
theorem dX3_search_64 : decode cX3_search 64 = .ok (.iload 4, 2) := by decide +kernel
theorem dX3_search_66 : decode cX3_search 66 = .ok (.iaload, 1) := by decide +kernel
theorem dX3_search_67 : decode cX3_search 67 = .ok (.istore 5, 2) := by decide +kernel
theorem dX3_search_69 : decode cX3_search 69 = .ok (.aload_n 0, 1) := by decide +kernel
theorem dX3_search_70 : decode cX3_search 70 = .ok (.getfield 9, 3) := by decide +kernel
theorem dX3_search_73 : decode cX3_search 73 = .ok (.iload 4, 2) := by decide +kernel
theorem dX3_search_75 : decode cX3_search 75 = .ok (.iconst 0, 1) := by decide +kernel
theorem dX3_search_76 : decode cX3_search 76 = .ok (.iload 5, 2) := by decide +kernel
theorem dX3_search_78 : decode cX3_search 78 = .ok (.iload_n 3, 1) := by decide +kernel
theorem dX3_search_79 : decode cX3_search 79 = .ok (.isub, 1) := by decide +kernel
theorem dX3_search_80 : decode cX3_search 80 = .ok (.invokestatic 62, 3) := by decide +kernel
theorem dX3_search_83 : decode cX3_search 83 = .ok (.iastore, 1) := by decide +kernel
theorem dX3_search_84 : decode cX3_search 84 = .ok (.aload_n 0, 1) := by decide +kernel
theorem dX3_search_85 : decode cX3_search 85 = .ok (.getfield 24, 3) := by decide +kernel
theorem dX3_search_88 : decode cX3_search 88 = .ok (.iload_n 1, 1) := by decide +kernel
theorem dX3_search_89 : decode cX3_search 89 = .ok (.iload 4, 2) := by decide +kernel
theorem dX3_search_91 : decode cX3_search 91 = .ok (.iastore, 1) := by decide +kernel
theorem dX3_search_92 : decode cX3_search 92 = .ok (.aload_n 0, 1) := by decide +kernel
theorem dX3_search_93 : decode cX3_search 93 = .ok (.iload_n 1, 1) := by decide +kernel
theorem dX3_search_94 : decode cX3_search 94 = .ok (.iconst 1, 1) := by decide +kernel
theorem dX3_search_95 : decode cX3_search 95 = .ok (.iadd, 1) := by decide +kernel
theorem dX3_search_96 : decode cX3_search 96 = .ok (.iload_n 2, 1) := by decide +kernel
theorem dX3_search_97 : decode cX3_search 97 = .ok (.iconst 0, 1) := by decide +kernel
theorem dX3_search_98 : decode cX3_search 98 = .ok (.iload_n 3, 1) := by decide +kernel
theorem dX3_search_99 : decode cX3_search 99 = .ok (.iload 5, 2) := by decide +kernel
theorem dX3_search_101 : decode cX3_search 101 = .ok (.isub, 1) := by decide +kernel
theorem dX3_search_102 : decode cX3_search 102 = .ok (.invokestatic 62, 3) := by decide +kernel
theorem dX3_search_105 : decode cX3_search 105 = .ok (.iadd, 1) := by decide +kernel
theorem dX3_search_106 : decode cX3_search 106 = .ok (.invokevirtual 38, 3) := by decide +kernel
theorem dX3_search_109 : decode cX3_search 109 = .ok (.aload_n 0, 1) := by decide +kernel
theorem dX3_search_110 : decode cX3_search 110 = .ok (.getfield 9, 3) := by decide +kernel
theorem dX3_search_113 : decode cX3_search 113 = .ok (.iload 4, 2) := by decide +kernel
theorem dX3_search_115 : decode cX3_search 115 = .ok (.iload 5, 2) := by decide +kernel
theorem dX3_search_117 : decode cX3_search 117 = .ok (.iastore, 1) := by decide +kernel
theorem dX3_search_118 : decode cX3_search 118 = .ok (.iinc 4 1, 3) := by decide +kernel
theorem dX3_search_121 : decode cX3_search 121 = .ok (.goto (-82), 3) := by decide +kernel
theorem dX3_search_124 : decode cX3_search 124 = .ok (.return_, 1) := by decide +kernel
theorem dX4_init_0 : decode cX4_init 0 = .ok (.aload_n 0, 1) := by decide +kernel
theorem dX4_init_1 : decode cX4_init 1 = .ok (.invokespecial 3, 3) := by decide +kernel
theorem dX4_init_4 : decode cX4_init 4 = .ok (.aload_n 0, 1) := by decide +kernel
theorem dX4_init_5 : decode cX4_init 5 = .ok (.new 9, 3) := by decide +kernel
theorem dX4_init_8 : decode cX4_init 8 = .ok (.dup, 1) := by decide +kernel
theorem dX4_init_9 : decode cX4_init 9 = .ok (.bipush 8, 2) := by decide +kernel
theorem dX4_init_11 : decode cX4_init 11 = .ok (.invokespecial 11, 3) := by decide +kernel
theorem dX4_init_14 : decode cX4_init 14 = .ok (.putfield 14, 3) := by decide +kernel
theorem dX4_init_17 : decode cX4_init 17 = .ok (.aload_n 0, 1) := by decide +kernel
theorem dX4_init_18 : decode cX4_init 18 = .ok (.bipush 14, 2) := by decide +kernel
theorem dX4_init_20 : decode cX4_init 20 = .ok (.newarray .int, 2) := by decide +kernel
theorem dX4_init_22 : decode cX4_init 22 = .ok (.putfield 20, 3) := by decide +kernel
theorem dX4_init_25 : decode cX4_init 25 = .ok (.aload_n 0, 1) := by decide +kernel
theorem dX4_init_26 : decode cX4_init 26 = .ok (.bipush 14, 2) := by decide +kernel
theorem dX4_init_28 : decode cX4_init 28 = .ok (.newarray .int, 2) := by decide +kernel
theorem dX4_init_30 : decode cX4_init 30 = .ok (.putfield 24, 3) := by decide +kernel
theorem dX4_init_33 : decode cX4_init 33 = .ok (.aload_n 0, 1) := by decide +kernel
theorem dX4_init_34 : decode cX4_init 34 = .ok (.new 27, 3) := by decide +kernel
theorem dX4_init_37 : decode cX4_init 37 = .ok (.dup, 1) := by decide +kernel
theorem dX4_init_38 : decode cX4_init 38 = .ok (.invokespecial 29, 3) := by decide +kernel
theorem dX4_init_41 : decode cX4_init 41 = .ok (.putfield 30, 3) := by decide +kernel
theorem dX4_init_44 : decode cX4_init 44 = .ok (.aload_n 0, 1) := by decide +kernel
theorem dX4_init_45 : decode cX4_init 45 = .ok (.iconst 1, 1) := by decide +kernel
theorem dX4_init_46 : decode cX4_init 46 = .ok (.putfield 34, 3) := by decide +kernel
theorem dX4_init_49 : decode cX4_init 49 = .ok (.aload_n 0, 1) := by decide +kernel
theorem dX4_init_50 : decode cX4_init 50 = .ok (.iconst 1, 1) := by decide +kernel
theorem dX4_init_51 : decode cX4_init 51 = .ok (.putfield 38, 3) := by decide +kernel
theorem dX4_init_54 : decode cX4_init 54 = .ok (.aload_n 0, 1) := by decide +kernel
theorem dX4_init_55 : decode cX4_init 55 = .ok (.getfield 20, 3) := by decide +kernel
theorem dX4_init_58 : decode cX4_init 58 = .ok (.iconst (-1), 1) := by decide +kernel
theorem dX4_init_59 : decode cX4_init 59 = .ok (.invokestatic 41, 3) := by decide +kernel
theorem dX4_init_62 : decode cX4_init 62 = .ok (.aload_n 0, 1) := by decide +kernel
theorem dX4_init_63 : decode cX4_init 63 = .ok (.getfield 24, 3) := by decide +kernel
theorem dX4_init_66 : decode cX4_init 66 = .ok (.iconst (-1), 1) := by decide +kernel
theorem dX4_init_67 : decode cX4_init 67 = .ok (.invokestatic 41, 3) := by decide +kernel
theorem dX4_init_70 : decode cX4_init 70 = .ok (.return_, 1) := by decide +kernel
theorem dX4_forgetTour_0 : decode cX4_forgetTour 0 = .ok (.aload_n 0, 1) := by decide +kernel
theorem dX4_forgetTour_1 : decode cX4_forgetTour 1 = .ok (.getfield 20, 3) := by decide +kernel
theorem dX4_forgetTour_4 : decode cX4_forgetTour 4 = .ok (.iconst (-1), 1) := by decide +kernel
theorem dX4_forgetTour_5 : decode cX4_forgetTour 5 = .ok (.invokestatic 41, 3) := by decide +kernel
theorem dX4_forgetTour_8 : decode cX4_forgetTour 8 = .ok (.aload_n 0, 1) := by decide +kernel
theorem dX4_forgetTour_9 : decode cX4_forgetTour 9 = .ok (.getfield 24, 3) := by decide +kernel
theorem dX4_forgetTour_12 : decode cX4_forgetTour 12 = .ok (.iconst (-1), 1) := by decide +kernel
theorem dX4_forgetTour_13 : decode cX4_forgetTour 13 = .ok (.invokestatic 41, 3) := by decide +kernel
theorem dX4_forgetTour_16 : decode cX4_forgetTour 16 = .ok (.return_, 1) := by decide +kernel
theorem dX6_keptBeforeLoss_0 : decode cX6_keptBeforeLoss 0 = .ok (.iload_n 1, 1) := by decide +kernel
theorem dX6_keptBeforeLoss_1 : decode cX6_keptBeforeLoss 1 = .ok (.aload_n 0, 1) := by decide +kernel
theorem dX6_keptBeforeLoss_2 : decode cX6_keptBeforeLoss 2 = .ok (.invokevirtual 54, 3) := by decide +kernel
theorem dX6_keptBeforeLoss_5 : decode cX6_keptBeforeLoss 5 = .ok (.iadd, 1) := by decide +kernel
theorem dX6_keptBeforeLoss_6 : decode cX6_keptBeforeLoss 6 = .ok (.aload_n 0, 1) := by decide +kernel
theorem dX6_keptBeforeLoss_7 : decode cX6_keptBeforeLoss 7 = .ok (.iload_n 1, 1) := by decide +kernel
theorem dX6_keptBeforeLoss_8 : decode cX6_keptBeforeLoss 8 = .ok (.invokevirtual 61, 3) := by decide +kernel
theorem dX6_keptBeforeLoss_11 : decode cX6_keptBeforeLoss 11 = .ok (.isub, 1) := by decide +kernel
theorem dX6_keptBeforeLoss_12 : decode cX6_keptBeforeLoss 12 = .ok (.ireturn, 1) := by decide +kernel
theorem dJ0_length_8abf5_0 : decode cJ0_length_8abf5 0 = .ok (.aload_n 0, 1) := by decide +kernel
theorem dJ0_length_8abf5_1 : decode cJ0_length_8abf5 1 = .ok (.getfield 9, 3) := by decide +kernel
theorem dJ0_length_8abf5_4 : decode cJ0_length_8abf5 4 = .ok (.arraylength, 1) := by decide +kernel
theorem dJ0_length_8abf5_5 : decode cJ0_length_8abf5 5 = .ok (.aload_n 0, 1) := by decide +kernel
theorem dJ0_length_8abf5_6 : decode cJ0_length_8abf5 6 = .ok (.invokevirtual 335, 3) := by decide +kernel
theorem dJ0_length_8abf5_9 : decode cJ0_length_8abf5 9 = .ok (.ishr, 1) := by decide +kernel
theorem dJ0_length_8abf5_10 : decode cJ0_length_8abf5 10 = .ok (.ireturn, 1) := by decide +kernel
theorem dJ0_checkIndex_df160_0 : decode cJ0_checkIndex_df160 0 = .ok (.iload_n 0, 1) := by decide +kernel
theorem dJ0_checkIndex_df160_1 : decode cJ0_checkIndex_df160 1 = .ok (.iload_n 1, 1) := by decide +kernel
theorem dJ0_checkIndex_df160_2 : decode cJ0_checkIndex_df160 2 = .ok (.getstatic 1053, 3) := by decide +kernel
theorem dJ0_checkIndex_df160_5 : decode cJ0_checkIndex_df160 5 = .ok (.invokestatic 1059, 3) := by decide +kernel
theorem dJ0_checkIndex_df160_8 : decode cJ0_checkIndex_df160 8 = .ok (.pop, 1) := by decide +kernel
theorem dJ0_checkIndex_df160_9 : decode cJ0_checkIndex_df160 9 = .ok (.return_, 1) := by decide +kernel
theorem dX1_build_0 : decode cX1_build 0 = .ok (.aload_n 0, 1) := by decide +kernel
theorem dX1_build_1 : decode cX1_build 1 = .ok (.iload_n 1, 1) := by decide +kernel
theorem dX1_build_2 : decode cX1_build 2 = .ok (.putfield 24, 3) := by decide +kernel
theorem dX1_build_5 : decode cX1_build 5 = .ok (.aload_n 0, 1) := by decide +kernel
theorem dX1_build_6 : decode cX1_build 6 = .ok (.iload_n 2, 1) := by decide +kernel
theorem dX1_build_7 : decode cX1_build 7 = .ok (.putfield 28, 3) := by decide +kernel
theorem dX1_build_10 : decode cX1_build 10 = .ok (.aload_n 0, 1) := by decide +kernel
theorem dX1_build_11 : decode cX1_build 11 = .ok (.getfield 14, 3) := by decide +kernel
theorem dX1_build_14 : decode cX1_build 14 = .ok (.aload_n 3, 1) := by decide +kernel
theorem dX1_build_15 : decode cX1_build 15 = .ok (.invokevirtual 31, 3) := by decide +kernel
theorem dX1_build_18 : decode cX1_build 18 = .ok (.return_, 1) := by decide +kernel
theorem dX3_canPlug_0 : decode cX3_canPlug 0 = .ok (.aload_n 0, 1) := by decide +kernel
theorem dX3_canPlug_1 : decode cX3_canPlug 1 = .ok (.aload_n 1, 1) := by decide +kernel
theorem dX3_canPlug_2 : decode cX3_canPlug 2 = .ok (.aload_n 2, 1) := by decide +kernel
theorem dX3_canPlug_3 : decode cX3_canPlug 3 = .ok (.invokevirtual 30, 3) := by decide +kernel
theorem dX3_canPlug_6 : decode cX3_canPlug 6 = .ok (.aload_n 0, 1) := by decide +kernel
theorem dX3_canPlug_7 : decode cX3_canPlug 7 = .ok (.iconst 1, 1) := by decide +kernel
theorem dX3_canPlug_8 : decode cX3_canPlug 8 = .ok (.putfield 34, 3) := by decide +kernel
theorem dX3_canPlug_11 : decode cX3_canPlug 11 = .ok (.aload_n 0, 1) := by decide +kernel
theorem dX3_canPlug_12 : decode cX3_canPlug 12 = .ok (.iconst 0, 1) := by decide +kernel
theorem dX3_canPlug_13 : decode cX3_canPlug 13 = .ok (.iconst 0, 1) := by decide +kernel
theorem dX3_canPlug_14 : decode cX3_canPlug 14 = .ok (.invokevirtual 38, 3) := by decide +kernel
theorem dX3_canPlug_17 : decode cX3_canPlug 17 = .ok (.aload_n 0, 1) := by decide +kernel
theorem dX3_canPlug_18 : decode cX3_canPlug 18 = .ok (.getfield 34, 3) := by decide +kernel
theorem dX3_canPlug_21 : decode cX3_canPlug 21 = .ok (.ifCond .ne 7, 3) := by decide +kernel
theorem dX3_canPlug_24 : decode cX3_canPlug 24 = .ok (.iconst 1, 1) := by decide +kernel
theorem dX3_canPlug_25 : decode cX3_canPlug 25 = .ok (.goto 4, 3) := by decide +kernel
theorem dX3_canPlug_28 : decode cX3_canPlug 28 = .ok (.iconst 0, 1) := by decide +kernel
theorem dX3_canPlug_29 : decode cX3_canPlug 29 = .ok (.ireturn, 1) := by decide +kernel
theorem dX3_leastLack_0 : decode cX3_leastLack 0 = .ok (.aload_n 0, 1) := by decide +kernel
theorem dX3_leastLack_1 : decode cX3_leastLack 1 = .ok (.aload_n 1, 1) := by decide +kernel
theorem dX3_leastLack_2 : decode cX3_leastLack 2 = .ok (.aload_n 2, 1) := by decide +kernel
theorem dX3_leastLack_3 : decode cX3_leastLack 3 = .ok (.invokevirtual 30, 3) := by decide +kernel
theorem dX3_leastLack_6 : decode cX3_leastLack 6 = .ok (.aload_n 0, 1) := by decide +kernel
theorem dX3_leastLack_7 : decode cX3_leastLack 7 = .ok (.aload_n 0, 1) := by decide +kernel
theorem dX3_leastLack_8 : decode cX3_leastLack 8 = .ok (.getfield 18, 3) := by decide +kernel
theorem dX3_leastLack_11 : decode cX3_leastLack 11 = .ok (.iconst 0, 1) := by decide +kernel
theorem dX3_leastLack_12 : decode cX3_leastLack 12 = .ok (.iaload, 1) := by decide +kernel
theorem dX3_leastLack_13 : decode cX3_leastLack 13 = .ok (.iconst 1, 1) := by decide +kernel
theorem dX3_leastLack_14 : decode cX3_leastLack 14 = .ok (.iadd, 1) := by decide +kernel
theorem dX3_leastLack_15 : decode cX3_leastLack 15 = .ok (.putfield 34, 3) := by decide +kernel
theorem dX3_leastLack_18 : decode cX3_leastLack 18 = .ok (.aload_n 0, 1) := by decide +kernel
theorem dX3_leastLack_19 : decode cX3_leastLack 19 = .ok (.iconst 0, 1) := by decide +kernel
theorem dX3_leastLack_20 : decode cX3_leastLack 20 = .ok (.iconst 0, 1) := by decide +kernel
theorem dX3_leastLack_21 : decode cX3_leastLack 21 = .ok (.invokevirtual 38, 3) := by decide +kernel
theorem dX3_leastLack_24 : decode cX3_leastLack 24 = .ok (.aload_n 0, 1) := by decide +kernel
theorem dX3_leastLack_25 : decode cX3_leastLack 25 = .ok (.getfield 34, 3) := by decide +kernel
theorem dX3_leastLack_28 : decode cX3_leastLack 28 = .ok (.ireturn, 1) := by decide +kernel
theorem dX4_build_0 : decode cX4_build 0 = .ok (.aload_n 0, 1) := by decide +kernel
theorem dX4_build_1 : decode cX4_build 1 = .ok (.iload_n 1, 1) := by decide +kernel
theorem dX4_build_2 : decode cX4_build 2 = .ok (.putfield 47, 3) := by decide +kernel
theorem dX4_build_5 : decode cX4_build 5 = .ok (.aload_n 0, 1) := by decide +kernel
theorem dX4_build_6 : decode cX4_build 6 = .ok (.iload_n 2, 1) := by decide +kernel
theorem dX4_build_7 : decode cX4_build 7 = .ok (.putfield 50, 3) := by decide +kernel
theorem dX4_build_10 : decode cX4_build 10 = .ok (.aload_n 0, 1) := by decide +kernel
theorem dX4_build_11 : decode cX4_build 11 = .ok (.getfield 14, 3) := by decide +kernel
theorem dX4_build_14 : decode cX4_build 14 = .ok (.aload_n 3, 1) := by decide +kernel
theorem dX4_build_15 : decode cX4_build 15 = .ok (.invokevirtual 53, 3) := by decide +kernel
theorem dX4_build_18 : decode cX4_build 18 = .ok (.return_, 1) := by decide +kernel
theorem dX6_schemeGives_0 : decode cX6_schemeGives 0 = .ok (.aload_n 0, 1) := by decide +kernel
theorem dX6_schemeGives_1 : decode cX6_schemeGives 1 = .ok (.iload_n 1, 1) := by decide +kernel
theorem dX6_schemeGives_2 : decode cX6_schemeGives 2 = .ok (.invokevirtual 50, 3) := by decide +kernel
theorem dX6_schemeGives_5 : decode cX6_schemeGives 5 = .ok (.istore_n 2, 1) := by decide +kernel
theorem dX6_schemeGives_6 : decode cX6_schemeGives 6 = .ok (.aload_n 0, 1) := by decide +kernel
theorem dX6_schemeGives_7 : decode cX6_schemeGives 7 = .ok (.getfield 31, 3) := by decide +kernel
theorem dX6_schemeGives_10 : decode cX6_schemeGives 10 = .ok (.ifCond .eq 15, 3) := by decide +kernel
theorem dX6_schemeGives_13 : decode cX6_schemeGives 13 = .ok (.iload_n 2, 1) := by decide +kernel
theorem dX6_schemeGives_14 : decode cX6_schemeGives 14 = .ok (.ifCond .ge 11, 3) := by decide +kernel
theorem dX6_schemeGives_17 : decode cX6_schemeGives 17 = .ok (.iconst 1, 1) := by decide +kernel
theorem dX6_schemeGives_18 : decode cX6_schemeGives 18 = .ok (.iload_n 2, 1) := by decide +kernel
theorem dX6_schemeGives_19 : decode cX6_schemeGives 19 = .ok (.isub, 1) := by decide +kernel
theorem dX6_schemeGives_20 : decode cX6_schemeGives 20 = .ok (.iconst 2, 1) := by decide +kernel
theorem dX6_schemeGives_21 : decode cX6_schemeGives 21 = .ok (.idiv, 1) := by decide +kernel
theorem dX6_schemeGives_22 : decode cX6_schemeGives 22 = .ok (.goto 4, 3) := by decide +kernel
theorem dX6_schemeGives_25 : decode cX6_schemeGives 25 = .ok (.iconst 0, 1) := by decide +kernel
theorem dX6_schemeGives_26 : decode cX6_schemeGives 26 = .ok (.istore_n 3, 1) := by decide +kernel
theorem dX6_schemeGives_27 : decode cX6_schemeGives 27 = .ok (.aload_n 0, 1) := by decide +kernel
theorem dX6_schemeGives_28 : decode cX6_schemeGives 28 = .ok (.invokevirtual 54, 3) := by decide +kernel
theorem dX6_schemeGives_31 : decode cX6_schemeGives 31 = .ok (.iload_n 3, 1) := by decide +kernel
theorem dX6_schemeGives_32 : decode cX6_schemeGives 32 = .ok (.iadd, 1) := by decide +kernel
theorem dX6_schemeGives_33 : decode cX6_schemeGives 33 = .ok (.ireturn, 1) := by decide +kernel
theorem dJ1_charAt_3b067_0 : decode cJ1_charAt_3b067 0 = .ok (.iload_n 1, 1) := by decide +kernel
theorem dJ1_charAt_3b067_1 : decode cJ1_charAt_3b067 1 = .ok (.aload_n 0, 1) := by decide +kernel
theorem dJ1_charAt_3b067_2 : decode cJ1_charAt_3b067 2 = .ok (.arraylength, 1) := by decide +kernel
theorem dJ1_charAt_3b067_3 : decode cJ1_charAt_3b067 3 = .ok (.invokestatic 9, 3) := by decide +kernel
theorem dJ1_charAt_3b067_6 : decode cJ1_charAt_3b067 6 = .ok (.aload_n 0, 1) := by decide +kernel
theorem dJ1_charAt_3b067_7 : decode cJ1_charAt_3b067 7 = .ok (.iload_n 1, 1) := by decide +kernel
theorem dJ1_charAt_3b067_8 : decode cJ1_charAt_3b067 8 = .ok (.baload, 1) := by decide +kernel
theorem dJ1_charAt_3b067_9 : decode cJ1_charAt_3b067 9 = .ok (.sipush 255, 3) := by decide +kernel
theorem dJ1_charAt_3b067_12 : decode cJ1_charAt_3b067 12 = .ok (.iand, 1) := by decide +kernel
theorem dJ1_charAt_3b067_13 : decode cJ1_charAt_3b067 13 = .ok (.i2c, 1) := by decide +kernel
theorem dJ1_charAt_3b067_14 : decode cJ1_charAt_3b067 14 = .ok (.ireturn, 1) := by decide +kernel
theorem dX6_hallKeeps_0 : decode cX6_hallKeeps 0 = .ok (.iload_n 1, 1) := by decide +kernel
theorem dX6_hallKeeps_1 : decode cX6_hallKeeps 1 = .ok (.aload_n 0, 1) := by decide +kernel
theorem dX6_hallKeeps_2 : decode cX6_hallKeeps 2 = .ok (.iload_n 1, 1) := by decide +kernel
theorem dX6_hallKeeps_3 : decode cX6_hallKeeps 3 = .ok (.invokevirtual 58, 3) := by decide +kernel
theorem dX6_hallKeeps_6 : decode cX6_hallKeeps 6 = .ok (.iadd, 1) := by decide +kernel
theorem dX6_hallKeeps_7 : decode cX6_hallKeeps 7 = .ok (.aload_n 0, 1) := by decide +kernel
theorem dX6_hallKeeps_8 : decode cX6_hallKeeps 8 = .ok (.iload_n 1, 1) := by decide +kernel
theorem dX6_hallKeeps_9 : decode cX6_hallKeeps 9 = .ok (.invokevirtual 61, 3) := by decide +kernel
theorem dX6_hallKeeps_12 : decode cX6_hallKeeps 12 = .ok (.isub, 1) := by decide +kernel
theorem dX6_hallKeeps_13 : decode cX6_hallKeeps 13 = .ok (.ireturn, 1) := by decide +kernel
theorem dJ0_charAt_5068e_0 : decode cJ0_charAt_5068e 0 = .ok (.aload_n 0, 1) := by decide +kernel
theorem dJ0_charAt_5068e_1 : decode cJ0_charAt_5068e 1 = .ok (.invokevirtual 492, 3) := by decide +kernel
theorem dJ0_charAt_5068e_4 : decode cJ0_charAt_5068e 4 = .ok (.ifCond .eq 12, 3) := by decide +kernel
theorem dJ0_charAt_5068e_7 : decode cJ0_charAt_5068e 7 = .ok (.aload_n 0, 1) := by decide +kernel
theorem dJ0_charAt_5068e_8 : decode cJ0_charAt_5068e 8 = .ok (.getfield 9, 3) := by decide +kernel
theorem dJ0_charAt_5068e_11 : decode cJ0_charAt_5068e 11 = .ok (.iload_n 1, 1) := by decide +kernel
theorem dJ0_charAt_5068e_12 : decode cJ0_charAt_5068e 12 = .ok (.invokestatic 495, 3) := by decide +kernel
theorem dJ0_charAt_5068e_15 : decode cJ0_charAt_5068e 15 = .ok (.ireturn, 1) := by decide +kernel
theorem dJ0_charAt_5068e_16 : decode cJ0_charAt_5068e 16 = .ok (.aload_n 0, 1) := by decide +kernel
theorem dJ0_charAt_5068e_17 : decode cJ0_charAt_5068e 17 = .ok (.getfield 9, 3) := by decide +kernel
theorem dJ0_charAt_5068e_20 : decode cJ0_charAt_5068e 20 = .ok (.iload_n 1, 1) := by decide +kernel
theorem dJ0_charAt_5068e_21 : decode cJ0_charAt_5068e 21 = .ok (.invokestatic 498, 3) := by decide +kernel
theorem dJ0_charAt_5068e_24 : decode cJ0_charAt_5068e 24 = .ok (.ireturn, 1) := by decide +kernel
theorem dX4_partOfDoor_0 : decode cX4_partOfDoor 0 = .ok (.aload_n 0, 1) := by decide +kernel
theorem dX4_partOfDoor_1 : decode cX4_partOfDoor 1 = .ok (.getfield 24, 3) := by decide +kernel
theorem dX4_partOfDoor_4 : decode cX4_partOfDoor 4 = .ok (.iload_n 1, 1) := by decide +kernel
theorem dX4_partOfDoor_5 : decode cX4_partOfDoor 5 = .ok (.iaload, 1) := by decide +kernel
theorem dX4_partOfDoor_6 : decode cX4_partOfDoor 6 = .ok (.istore_n 3, 1) := by decide +kernel
theorem dX4_partOfDoor_7 : decode cX4_partOfDoor 7 = .ok (.iload_n 2, 1) := by decide +kernel
theorem dX4_partOfDoor_8 : decode cX4_partOfDoor 8 = .ok (.tableswitch 55 1 3 #[28, 37, 46], 28) := by decide +kernel
theorem dX4_partOfDoor_36 : decode cX4_partOfDoor 36 = .ok (.aload_n 0, 1) := by decide +kernel
theorem dX4_partOfDoor_37 : decode cX4_partOfDoor 37 = .ok (.getfield 30, 3) := by decide +kernel
theorem dX4_partOfDoor_40 : decode cX4_partOfDoor 40 = .ok (.iload_n 3, 1) := by decide +kernel
theorem dX4_partOfDoor_41 : decode cX4_partOfDoor 41 = .ok (.invokevirtual 63, 3) := by decide +kernel
theorem dX4_partOfDoor_44 : decode cX4_partOfDoor 44 = .ok (.ireturn, 1) := by decide +kernel
theorem dX4_partOfDoor_45 : decode cX4_partOfDoor 45 = .ok (.aload_n 0, 1) := by decide +kernel
theorem dX4_partOfDoor_46 : decode cX4_partOfDoor 46 = .ok (.getfield 30, 3) := by decide +kernel
theorem dX4_partOfDoor_49 : decode cX4_partOfDoor 49 = .ok (.iload_n 3, 1) := by decide +kernel
theorem dX4_partOfDoor_50 : decode cX4_partOfDoor 50 = .ok (.invokevirtual 67, 3) := by decide +kernel
theorem dX4_partOfDoor_53 : decode cX4_partOfDoor 53 = .ok (.ireturn, 1) := by decide +kernel
theorem dX4_partOfDoor_54 : decode cX4_partOfDoor 54 = .ok (.aload_n 0, 1) := by decide +kernel
theorem dX4_partOfDoor_55 : decode cX4_partOfDoor 55 = .ok (.getfield 30, 3) := by decide +kernel
theorem dX4_partOfDoor_58 : decode cX4_partOfDoor 58 = .ok (.iload_n 3, 1) := by decide +kernel
theorem dX4_partOfDoor_59 : decode cX4_partOfDoor 59 = .ok (.invokevirtual 70, 3) := by decide +kernel
theorem dX4_partOfDoor_62 : decode cX4_partOfDoor 62 = .ok (.ireturn, 1) := by decide +kernel
theorem dX4_partOfDoor_63 : decode cX4_partOfDoor 63 = .ok (.iload_n 3, 1) := by decide +kernel
theorem dX4_partOfDoor_64 : decode cX4_partOfDoor 64 = .ok (.ireturn, 1) := by decide +kernel
