theorem dX2_init_0 : decode cX2_init 0 = .ok (.aload_n 0, 1) := by decide +kernel
theorem dX2_init_1 : decode cX2_init 1 = .ok (.invokespecial 5, 3) := by decide +kernel
theorem dX2_init_4 : decode cX2_init 4 = .ok (.aload_n 0, 1) := by decide +kernel
theorem dX2_init_5 : decode cX2_init 5 = .ok (.bipush 6, 2) := by decide +kernel
theorem dX2_init_7 : decode cX2_init 7 = .ok (.newarray .int, 2) := by decide +kernel
theorem dX2_init_9 : decode cX2_init 9 = .ok (.putfield 11, 3) := by decide +kernel
theorem dX2_init_12 : decode cX2_init 12 = .ok (.aload_n 0, 1) := by decide +kernel
theorem dX2_init_13 : decode cX2_init 13 = .ok (.bipush 6, 2) := by decide +kernel
theorem dX2_init_15 : decode cX2_init 15 = .ok (.newarray .int, 2) := by decide +kernel
theorem dX2_init_17 : decode cX2_init 17 = .ok (.putfield 15, 3) := by decide +kernel
theorem dX2_init_20 : decode cX2_init 20 = .ok (.aload_n 0, 1) := by decide +kernel
theorem dX2_init_21 : decode cX2_init 21 = .ok (.bipush 36, 2) := by decide +kernel
theorem dX2_init_23 : decode cX2_init 23 = .ok (.newarray .int, 2) := by decide +kernel
theorem dX2_init_25 : decode cX2_init 25 = .ok (.putfield 18, 3) := by decide +kernel
theorem dX2_init_28 : decode cX2_init 28 = .ok (.aload_n 0, 1) := by decide +kernel
theorem dX2_init_29 : decode cX2_init 29 = .ok (.bipush 6, 2) := by decide +kernel
theorem dX2_init_31 : decode cX2_init 31 = .ok (.newarray .int, 2) := by decide +kernel
theorem dX2_init_33 : decode cX2_init 33 = .ok (.putfield 21, 3) := by decide +kernel
theorem dX2_init_36 : decode cX2_init 36 = .ok (.aload_n 0, 1) := by decide +kernel
theorem dX2_init_37 : decode cX2_init 37 = .ok (.sipush 5376, 3) := by decide +kernel
theorem dX2_init_40 : decode cX2_init 40 = .ok (.newarray .long, 2) := by decide +kernel
theorem dX2_init_42 : decode cX2_init 42 = .ok (.putfield 24, 3) := by decide +kernel
theorem dX2_init_45 : decode cX2_init 45 = .ok (.return_, 1) := by decide +kernel
theorem dX2_start_0 : decode cX2_start 0 = .ok (.aload_n 0, 1) := by decide +kernel
theorem dX2_start_1 : decode cX2_start 1 = .ok (.iconst 0, 1) := by decide +kernel
theorem dX2_start_2 : decode cX2_start 2 = .ok (.putfield 28, 3) := by decide +kernel
theorem dX2_start_5 : decode cX2_start 5 = .ok (.aload_n 0, 1) := by decide +kernel
theorem dX2_start_6 : decode cX2_start 6 = .ok (.aload_n 1, 1) := by decide +kernel
theorem dX2_start_7 : decode cX2_start 7 = .ok (.getfield 32, 3) := by decide +kernel
theorem dX2_start_10 : decode cX2_start 10 = .ok (.putfield 37, 3) := by decide +kernel
theorem dX2_start_13 : decode cX2_start 13 = .ok (.aload_n 0, 1) := by decide +kernel
theorem dX2_start_14 : decode cX2_start 14 = .ok (.aload_n 1, 1) := by decide +kernel
theorem dX2_start_15 : decode cX2_start 15 = .ok (.getfield 38, 3) := by decide +kernel
theorem dX2_start_18 : decode cX2_start 18 = .ok (.putfield 41, 3) := by decide +kernel
theorem dX2_start_21 : decode cX2_start 21 = .ok (.aload_n 0, 1) := by decide +kernel
theorem dX2_start_22 : decode cX2_start 22 = .ok (.iconst 1, 1) := by decide +kernel
theorem dX2_start_23 : decode cX2_start 23 = .ok (.aload_n 1, 1) := by decide +kernel
theorem dX2_start_24 : decode cX2_start 24 = .ok (.getfield 42, 3) := by decide +kernel
theorem dX2_start_27 : decode cX2_start 27 = .ok (.invokestatic 45, 3) := by decide +kernel
theorem dX2_start_30 : decode cX2_start 30 = .ok (.putfield 51, 3) := by decide +kernel
theorem dX2_start_33 : decode cX2_start 33 = .ok (.aload_n 0, 1) := by decide +kernel
theorem dX2_start_34 : decode cX2_start 34 = .ok (.aload_n 1, 1) := by decide +kernel
theorem dX2_start_35 : decode cX2_start 35 = .ok (.getfield 52, 3) := by decide +kernel
theorem dX2_start_38 : decode cX2_start 38 = .ok (.putfield 55, 3) := by decide +kernel
theorem dX2_start_41 : decode cX2_start 41 = .ok (.return_, 1) := by decide +kernel
theorem dX2_asksMore_0 : decode cX2_asksMore 0 = .ok (.aload_n 0, 1) := by decide +kernel
theorem dX2_asksMore_1 : decode cX2_asksMore 1 = .ok (.getfield 28, 3) := by decide +kernel
theorem dX2_asksMore_4 : decode cX2_asksMore 4 = .ok (.bipush 6, 2) := by decide +kernel
theorem dX2_asksMore_6 : decode cX2_asksMore 6 = .ok (.if_icmp .ge 7, 3) := by decide +kernel
theorem dX2_asksMore_9 : decode cX2_asksMore 9 = .ok (.iconst 1, 1) := by decide +kernel
theorem dX2_asksMore_10 : decode cX2_asksMore 10 = .ok (.goto 4, 3) := by decide +kernel
theorem dX2_asksMore_13 : decode cX2_asksMore 13 = .ok (.iconst 0, 1) := by decide +kernel
theorem dX2_asksMore_14 : decode cX2_asksMore 14 = .ok (.ireturn, 1) := by decide +kernel
theorem dX2_close_0 : decode cX2_close 0 = .ok (.aload_n 0, 1) := by decide +kernel
theorem dX2_close_1 : decode cX2_close 1 = .ok (.getfield 28, 3) := by decide +kernel
theorem dX2_close_4 : decode cX2_close 4 = .ok (.ifCond .le 20, 3) := by decide +kernel
theorem dX2_close_7 : decode cX2_close 7 = .ok (.aload_n 0, 1) := by decide +kernel
theorem dX2_close_8 : decode cX2_close 8 = .ok (.getfield 21, 3) := by decide +kernel
theorem dX2_close_11 : decode cX2_close 11 = .ok (.aload_n 0, 1) := by decide +kernel
theorem dX2_close_12 : decode cX2_close 12 = .ok (.getfield 28, 3) := by decide +kernel
theorem dX2_close_15 : decode cX2_close 15 = .ok (.iconst 1, 1) := by decide +kernel
theorem dX2_close_16 : decode cX2_close 16 = .ok (.isub, 1) := by decide +kernel
theorem dX2_close_17 : decode cX2_close 17 = .ok (.dup2, 1) := by decide +kernel
theorem dX2_close_18 : decode cX2_close 18 = .ok (.iaload, 1) := by decide +kernel
theorem dX2_close_19 : decode cX2_close 19 = .ok (.iconst 1, 1) := by decide +kernel
theorem dX2_close_20 : decode cX2_close 20 = .ok (.iload_n 1, 1) := by decide +kernel
theorem dX2_close_21 : decode cX2_close 21 = .ok (.ishl, 1) := by decide +kernel
theorem dX2_close_22 : decode cX2_close 22 = .ok (.ior, 1) := by decide +kernel
theorem dX2_close_23 : decode cX2_close 23 = .ok (.iastore, 1) := by decide +kernel
theorem dX2_close_24 : decode cX2_close 24 = .ok (.return_, 1) := by decide +kernel
theorem dX2_has_0 : decode cX2_has 0 = .ok (.iload_n 0, 1) := by decide +kernel
theorem dX2_has_1 : decode cX2_has 1 = .ok (.iload_n 1, 1) := by decide +kernel
theorem dX2_has_2 : decode cX2_has 2 = .ok (.ishr, 1) := by decide +kernel
theorem dX2_has_3 : decode cX2_has 3 = .ok (.iconst 1, 1) := by decide +kernel
theorem dX2_has_4 : decode cX2_has 4 = .ok (.iand, 1) := by decide +kernel
theorem dX2_has_5 : decode cX2_has 5 = .ok (.ifCond .eq 7, 3) := by decide +kernel
theorem dX2_has_8 : decode cX2_has 8 = .ok (.iconst 1, 1) := by decide +kernel
theorem dX2_has_9 : decode cX2_has 9 = .ok (.goto 4, 3) := by decide +kernel
theorem dX2_has_12 : decode cX2_has 12 = .ok (.iconst 0, 1) := by decide +kernel
theorem dX2_has_13 : decode cX2_has 13 = .ok (.ireturn, 1) := by decide +kernel
theorem dX2_cell_0 : decode cX2_cell 0 = .ok (.iload_n 0, 1) := by decide +kernel
theorem dX2_cell_1 : decode cX2_cell 1 = .ok (.bipush 64, 2) := by decide +kernel
theorem dX2_cell_3 : decode cX2_cell 3 = .ok (.imul, 1) := by decide +kernel
theorem dX2_cell_4 : decode cX2_cell 4 = .ok (.iload_n 1, 1) := by decide +kernel
theorem dX2_cell_5 : decode cX2_cell 5 = .ok (.iadd, 1) := by decide +kernel
theorem dX2_cell_6 : decode cX2_cell 6 = .ok (.bipush 6, 2) := by decide +kernel
theorem dX2_cell_8 : decode cX2_cell 8 = .ok (.imul, 1) := by decide +kernel
theorem dX2_cell_9 : decode cX2_cell 9 = .ok (.iload_n 2, 1) := by decide +kernel
theorem dX2_cell_10 : decode cX2_cell 10 = .ok (.iadd, 1) := by decide +kernel
theorem dX2_cell_11 : decode cX2_cell 11 = .ok (.ireturn, 1) := by decide +kernel
theorem dX2_pack_0 : decode cX2_pack 0 = .ok (.iload_n 0, 1) := by decide +kernel
theorem dX2_pack_1 : decode cX2_pack 1 = .ok (.i2l, 1) := by decide +kernel
theorem dX2_pack_2 : decode cX2_pack 2 = .ok (.bipush 6, 2) := by decide +kernel
theorem dX2_pack_4 : decode cX2_pack 4 = .ok (.iload_n 1, 1) := by decide +kernel
theorem dX2_pack_5 : decode cX2_pack 5 = .ok (.imul, 1) := by decide +kernel
theorem dX2_pack_6 : decode cX2_pack 6 = .ok (.lshl, 1) := by decide +kernel
theorem dX2_pack_7 : decode cX2_pack 7 = .ok (.lreturn, 1) := by decide +kernel
theorem dX2_unpack_0 : decode cX2_unpack 0 = .ok (.lload_n 0, 1) := by decide +kernel
theorem dX2_unpack_1 : decode cX2_unpack 1 = .ok (.bipush 6, 2) := by decide +kernel
theorem dX2_unpack_3 : decode cX2_unpack 3 = .ok (.iload_n 2, 1) := by decide +kernel
theorem dX2_unpack_4 : decode cX2_unpack 4 = .ok (.imul, 1) := by decide +kernel
theorem dX2_unpack_5 : decode cX2_unpack 5 = .ok (.lushr, 1) := by decide +kernel
theorem dX2_unpack_6 : decode cX2_unpack 6 = .ok (.l2i, 1) := by decide +kernel
theorem dX2_unpack_7 : decode cX2_unpack 7 = .ok (.bipush 63, 2) := by decide +kernel
theorem dX2_unpack_9 : decode cX2_unpack 9 = .ok (.iand, 1) := by decide +kernel
theorem dX2_unpack_10 : decode cX2_unpack 10 = .ok (.ireturn, 1) := by decide +kernel
theorem dX2_ask_0 : decode cX2_ask 0 = .ok (.aload_n 0, 1) := by decide +kernel
theorem dX2_ask_1 : decode cX2_ask 1 = .ok (.invokevirtual 56, 3) := by decide +kernel
theorem dX2_ask_4 : decode cX2_ask 4 = .ok (.ifCond .ne 4, 3) := by decide +kernel
theorem dX2_ask_7 : decode cX2_ask 7 = .ok (.return_, 1) := by decide +kernel
theorem dX2_ask_8 : decode cX2_ask 8 = .ok (.aload_n 0, 1) := by decide +kernel
theorem dX2_ask_9 : decode cX2_ask 9 = .ok (.getfield 11, 3) := by decide +kernel
theorem dX2_ask_12 : decode cX2_ask 12 = .ok (.aload_n 0, 1) := by decide +kernel
theorem dX2_ask_13 : decode cX2_ask 13 = .ok (.getfield 28, 3) := by decide +kernel
theorem dX2_ask_16 : decode cX2_ask 16 = .ok (.iload_n 1, 1) := by decide +kernel
theorem dX2_ask_17 : decode cX2_ask 17 = .ok (.iastore, 1) := by decide +kernel
theorem dX2_ask_18 : decode cX2_ask 18 = .ok (.aload_n 0, 1) := by decide +kernel
theorem dX2_ask_19 : decode cX2_ask 19 = .ok (.getfield 15, 3) := by decide +kernel
theorem dX2_ask_22 : decode cX2_ask 22 = .ok (.aload_n 0, 1) := by decide +kernel
theorem dX2_ask_23 : decode cX2_ask 23 = .ok (.getfield 28, 3) := by decide +kernel
theorem dX2_ask_26 : decode cX2_ask 26 = .ok (.iload_n 3, 1) := by decide +kernel
theorem dX2_ask_27 : decode cX2_ask 27 = .ok (.iastore, 1) := by decide +kernel
theorem dX2_ask_28 : decode cX2_ask 28 = .ok (.aload_n 0, 1) := by decide +kernel
theorem dX2_ask_29 : decode cX2_ask 29 = .ok (.getfield 21, 3) := by decide +kernel
theorem dX2_ask_32 : decode cX2_ask 32 = .ok (.aload_n 0, 1) := by decide +kernel
theorem dX2_ask_33 : decode cX2_ask 33 = .ok (.getfield 28, 3) := by decide +kernel
theorem dX2_ask_36 : decode cX2_ask 36 = .ok (.iconst 0, 1) := by decide +kernel
theorem dX2_ask_37 : decode cX2_ask 37 = .ok (.iastore, 1) := by decide +kernel
theorem dX2_ask_38 : decode cX2_ask 38 = .ok (.iconst 0, 1) := by decide +kernel
theorem dX2_ask_39 : decode cX2_ask 39 = .ok (.istore 4, 2) := by decide +kernel
theorem dX2_ask_41 : decode cX2_ask 41 = .ok (.iload 4, 2) := by decide +kernel
theorem dX2_ask_43 : decode cX2_ask 43 = .ok (.aload_n 0, 1) := by decide +kernel
theorem dX2_ask_44 : decode cX2_ask 44 = .ok (.getfield 28, 3) := by decide +kernel
theorem dX2_ask_47 : decode cX2_ask 47 = .ok (.if_icmp .ge 72, 3) := by decide +kernel
theorem dX2_ask_50 : decode cX2_ask 50 = .ok (.aload_n 2, 1) := by decide +kernel
theorem dX2_ask_51 : decode cX2_ask 51 = .ok (.aload_n 0, 1) := by decide +kernel
theorem dX2_ask_52 : decode cX2_ask 52 = .ok (.getfield 11, 3) := by decide +kernel
theorem dX2_ask_55 : decode cX2_ask 55 = .ok (.iload 4, 2) := by decide +kernel
theorem dX2_ask_57 : decode cX2_ask 57 = .ok (.iaload, 1) := by decide +kernel
theorem dX2_ask_58 : decode cX2_ask 58 = .ok (.aaload, 1) := by decide +kernel
theorem dX2_ask_59 : decode cX2_ask 59 = .ok (.aload_n 2, 1) := by decide +kernel
theorem dX2_ask_60 : decode cX2_ask 60 = .ok (.iload_n 1, 1) := by decide +kernel
theorem dX2_ask_61 : decode cX2_ask 61 = .ok (.aaload, 1) := by decide +kernel
theorem dX2_ask_62 : decode cX2_ask 62 = .ok (.invokevirtual 60, 3) := by decide +kernel
theorem dX2_ask_65 : decode cX2_ask 65 = .ok (.aload_n 0, 1) := by decide +kernel
theorem dX2_ask_66 : decode cX2_ask 66 = .ok (.getfield 51, 3) := by decide +kernel
theorem dX2_ask_69 : decode cX2_ask 69 = .ok (.iadd, 1) := by decide +kernel
theorem dX2_ask_70 : decode cX2_ask 70 = .ok (.iconst 1, 1) := by decide +kernel
theorem dX2_ask_71 : decode cX2_ask 71 = .ok (.isub, 1) := by decide +kernel
theorem dX2_ask_72 : decode cX2_ask 72 = .ok (.aload_n 0, 1) := by decide +kernel
theorem dX2_ask_73 : decode cX2_ask 73 = .ok (.getfield 51, 3) := by decide +kernel
theorem dX2_ask_76 : decode cX2_ask 76 = .ok (.idiv, 1) := by decide +kernel
theorem dX2_ask_77 : decode cX2_ask 77 = .ok (.istore 5, 2) := by decide +kernel
theorem dX2_ask_79 : decode cX2_ask 79 = .ok (.aload_n 0, 1) := by decide +kernel
theorem dX2_ask_80 : decode cX2_ask 80 = .ok (.getfield 18, 3) := by decide +kernel
theorem dX2_ask_83 : decode cX2_ask 83 = .ok (.iload 4, 2) := by decide +kernel
theorem dX2_ask_85 : decode cX2_ask 85 = .ok (.bipush 6, 2) := by decide +kernel
theorem dX2_ask_87 : decode cX2_ask 87 = .ok (.imul, 1) := by decide +kernel
theorem dX2_ask_88 : decode cX2_ask 88 = .ok (.aload_n 0, 1) := by decide +kernel
theorem dX2_ask_89 : decode cX2_ask 89 = .ok (.getfield 28, 3) := by decide +kernel
theorem dX2_ask_92 : decode cX2_ask 92 = .ok (.iadd, 1) := by decide +kernel
theorem dX2_ask_93 : decode cX2_ask 93 = .ok (.iload 5, 2) := by decide +kernel
theorem dX2_ask_95 : decode cX2_ask 95 = .ok (.iastore, 1) := by decide +kernel
theorem dX2_ask_96 : decode cX2_ask 96 = .ok (.aload_n 0, 1) := by decide +kernel
theorem dX2_ask_97 : decode cX2_ask 97 = .ok (.getfield 18, 3) := by decide +kernel
theorem dX2_ask_100 : decode cX2_ask 100 = .ok (.aload_n 0, 1) := by decide +kernel
theorem dX2_ask_101 : decode cX2_ask 101 = .ok (.getfield 28, 3) := by decide +kernel
theorem dX2_ask_104 : decode cX2_ask 104 = .ok (.bipush 6, 2) := by decide +kernel
theorem dX2_ask_106 : decode cX2_ask 106 = .ok (.imul, 1) := by decide +kernel
theorem dX2_ask_107 : decode cX2_ask 107 = .ok (.iload 4, 2) := by decide +kernel
theorem dX2_ask_109 : decode cX2_ask 109 = .ok (.iadd, 1) := by decide +kernel
theorem dX2_ask_110 : decode cX2_ask 110 = .ok (.iload 5, 2) := by decide +kernel
theorem dX2_ask_112 : decode cX2_ask 112 = .ok (.iastore, 1) := by decide +kernel
theorem dX2_ask_113 : decode cX2_ask 113 = .ok (.iinc 4 1, 3) := by decide +kernel
theorem dX2_ask_116 : decode cX2_ask 116 = .ok (.goto (-75), 3) := by decide +kernel
theorem dX2_ask_119 : decode cX2_ask 119 = .ok (.aload_n 0, 1) := by decide +kernel
theorem dX2_ask_120 : decode cX2_ask 120 = .ok (.dup, 1) := by decide +kernel
theorem dX2_ask_121 : decode cX2_ask 121 = .ok (.getfield 28, 3) := by decide +kernel
theorem dX2_ask_124 : decode cX2_ask 124 = .ok (.iconst 1, 1) := by decide +kernel
theorem dX2_ask_125 : decode cX2_ask 125 = .ok (.iadd, 1) := by decide +kernel
theorem dX2_ask_126 : decode cX2_ask 126 = .ok (.putfield 28, 3) := by decide +kernel
theorem dX2_ask_129 : decode cX2_ask 129 = .ok (.return_, 1) := by decide +kernel
theorem dX2_gain_0 : decode cX2_gain 0 = .ok (.aload_n 0, 1) := by decide +kernel
theorem dX2_gain_1 : decode cX2_gain 1 = .ok (.getfield 24, 3) := by decide +kernel
theorem dX2_gain_4 : decode cX2_gain 4 = .ok (.iload_n 1, 1) := by decide +kernel
theorem dX2_gain_5 : decode cX2_gain 5 = .ok (.iload_n 2, 1) := by decide +kernel
theorem dX2_gain_6 : decode cX2_gain 6 = .ok (.iload_n 3, 1) := by decide +kernel
theorem dX2_gain_7 : decode cX2_gain 7 = .ok (.invokestatic 103, 3) := by decide +kernel
theorem dX2_gain_10 : decode cX2_gain 10 = .ok (.laload, 1) := by decide +kernel
theorem dX2_gain_11 : decode cX2_gain 11 = .ok (.iload 4, 2) := by decide +kernel
theorem dX2_gain_13 : decode cX2_gain 13 = .ok (.invokestatic 99, 3) := by decide +kernel
theorem dX2_gain_16 : decode cX2_gain 16 = .ok (.ireturn, 1) := by decide +kernel
theorem dX2_gainRested_0 : decode cX2_gainRested 0 = .ok (.iconst 0, 1) := by decide +kernel
theorem dX2_gainRested_1 : decode cX2_gainRested 1 = .ok (.istore 4, 2) := by decide +kernel
theorem dX2_gainRested_3 : decode cX2_gainRested 3 = .ok (.iconst 0, 1) := by decide +kernel
theorem dX2_gainRested_4 : decode cX2_gainRested 4 = .ok (.istore 5, 2) := by decide +kernel
theorem dX2_gainRested_6 : decode cX2_gainRested 6 = .ok (.iload 5, 2) := by decide +kernel
theorem dX2_gainRested_8 : decode cX2_gainRested 8 = .ok (.aload_n 0, 1) := by decide +kernel
theorem dX2_gainRested_9 : decode cX2_gainRested 9 = .ok (.getfield 28, 3) := by decide +kernel
theorem dX2_gainRested_12 : decode cX2_gainRested 12 = .ok (.if_icmp .ge 69, 3) := by decide +kernel
theorem dX2_gainRested_15 : decode cX2_gainRested 15 = .ok (.iload_n 1, 1) := by decide +kernel
theorem dX2_gainRested_16 : decode cX2_gainRested 16 = .ok (.iconst 2, 1) := by decide +kernel
theorem dX2_gainRested_17 : decode cX2_gainRested 17 = .ok (.aload_n 0, 1) := by decide +kernel
theorem dX2_gainRested_18 : decode cX2_gainRested 18 = .ok (.getfield 18, 3) := by decide +kernel
theorem dX2_gainRested_21 : decode cX2_gainRested 21 = .ok (.iload_n 3, 1) := by decide +kernel
theorem dX2_gainRested_22 : decode cX2_gainRested 22 = .ok (.bipush 6, 2) := by decide +kernel
theorem dX2_gainRested_24 : decode cX2_gainRested 24 = .ok (.imul, 1) := by decide +kernel
theorem dX2_gainRested_25 : decode cX2_gainRested 25 = .ok (.iload 5, 2) := by decide +kernel
theorem dX2_gainRested_27 : decode cX2_gainRested 27 = .ok (.iadd, 1) := by decide +kernel
theorem dX2_gainRested_28 : decode cX2_gainRested 28 = .ok (.iaload, 1) := by decide +kernel
theorem dX2_gainRested_29 : decode cX2_gainRested 29 = .ok (.invokestatic 45, 3) := by decide +kernel
theorem dX2_gainRested_32 : decode cX2_gainRested 32 = .ok (.iadd, 1) := by decide +kernel
theorem dX2_gainRested_33 : decode cX2_gainRested 33 = .ok (.istore 6, 2) := by decide +kernel
theorem dX2_gainRested_35 : decode cX2_gainRested 35 = .ok (.iload_n 2, 1) := by decide +kernel
theorem dX2_gainRested_36 : decode cX2_gainRested 36 = .ok (.iload 5, 2) := by decide +kernel
theorem dX2_gainRested_38 : decode cX2_gainRested 38 = .ok (.invokestatic 66, 3) := by decide +kernel
theorem dX2_gainRested_41 : decode cX2_gainRested 41 = .ok (.ifCond .ne 34, 3) := by decide +kernel
theorem dX2_gainRested_44 : decode cX2_gainRested 44 = .ok (.iload 6, 2) := by decide +kernel
theorem dX2_gainRested_46 : decode cX2_gainRested 46 = .ok (.aload_n 0, 1) := by decide +kernel
theorem dX2_gainRested_47 : decode cX2_gainRested 47 = .ok (.getfield 41, 3) := by decide +kernel
theorem dX2_gainRested_50 : decode cX2_gainRested 50 = .ok (.if_icmp .gt 25, 3) := by decide +kernel
theorem dX2_gainRested_53 : decode cX2_gainRested 53 = .ok (.iload 4, 2) := by decide +kernel
theorem dX2_gainRested_55 : decode cX2_gainRested 55 = .ok (.aload_n 0, 1) := by decide +kernel
theorem dX2_gainRested_56 : decode cX2_gainRested 56 = .ok (.iload 6, 2) := by decide +kernel
theorem dX2_gainRested_58 : decode cX2_gainRested 58 = .ok (.iload_n 2, 1) := by decide +kernel
theorem dX2_gainRested_59 : decode cX2_gainRested 59 = .ok (.iconst 1, 1) := by decide +kernel
theorem dX2_gainRested_60 : decode cX2_gainRested 60 = .ok (.iload 5, 2) := by decide +kernel
theorem dX2_gainRested_62 : decode cX2_gainRested 62 = .ok (.ishl, 1) := by decide +kernel
theorem dX2_gainRested_63 : decode cX2_gainRested 63 = .ok (.ior, 1) := by decide +kernel
theorem dX2_gainRested_64 : decode cX2_gainRested 64 = .ok (.iload 5, 2) := by decide +kernel
theorem dX2_gainRested_66 : decode cX2_gainRested 66 = .ok (.iconst 0, 1) := by decide +kernel
theorem dX2_gainRested_67 : decode cX2_gainRested 67 = .ok (.invokevirtual 96, 3) := by decide +kernel
theorem dX2_gainRested_70 : decode cX2_gainRested 70 = .ok (.invokestatic 45, 3) := by decide +kernel
theorem dX2_gainRested_73 : decode cX2_gainRested 73 = .ok (.istore 4, 2) := by decide +kernel
theorem dX2_gainRested_75 : decode cX2_gainRested 75 = .ok (.iinc 5 1, 3) := by decide +kernel
theorem dX2_gainRested_78 : decode cX2_gainRested 78 = .ok (.goto (-72), 3) := by decide +kernel
theorem dX2_gainRested_81 : decode cX2_gainRested 81 = .ok (.iload 4, 2) := by decide +kernel
theorem dX2_gainRested_83 : decode cX2_gainRested 83 = .ok (.ireturn, 1) := by decide +kernel
theorem dX2_gainNextNight_0 : decode cX2_gainNextNight 0 = .ok (.iconst 0, 1) := by decide +kernel
theorem dX2_gainNextNight_1 : decode cX2_gainNextNight 1 = .ok (.istore 5, 2) := by decide +kernel
theorem dX2_gainNextNight_3 : decode cX2_gainNextNight 3 = .ok (.iconst 0, 1) := by decide +kernel
theorem dX2_gainNextNight_4 : decode cX2_gainNextNight 4 = .ok (.istore 6, 2) := by decide +kernel
theorem dX2_gainNextNight_6 : decode cX2_gainNextNight 6 = .ok (.iload 6, 2) := by decide +kernel
theorem dX2_gainNextNight_8 : decode cX2_gainNextNight 8 = .ok (.aload_n 0, 1) := by decide +kernel
theorem dX2_gainNextNight_9 : decode cX2_gainNextNight 9 = .ok (.getfield 28, 3) := by decide +kernel
theorem dX2_gainNextNight_12 : decode cX2_gainNextNight 12 = .ok (.if_icmp .ge 68, 3) := by decide +kernel
theorem dX2_gainNextNight_15 : decode cX2_gainNextNight 15 = .ok (.iload_n 1, 1) := by decide +kernel
theorem dX2_gainNextNight_16 : decode cX2_gainNextNight 16 = .ok (.aload_n 0, 1) := by decide +kernel
theorem dX2_gainNextNight_17 : decode cX2_gainNextNight 17 = .ok (.getfield 41, 3) := by decide +kernel
theorem dX2_gainNextNight_20 : decode cX2_gainNextNight 20 = .ok (.if_icmp .ge 60, 3) := by decide +kernel
theorem dX2_gainNextNight_23 : decode cX2_gainNextNight 23 = .ok (.iload_n 2, 1) := by decide +kernel
theorem dX2_gainNextNight_24 : decode cX2_gainNextNight 24 = .ok (.iload 6, 2) := by decide +kernel
theorem dX2_gainNextNight_26 : decode cX2_gainNextNight 26 = .ok (.invokestatic 66, 3) := by decide +kernel
theorem dX2_gainNextNight_29 : decode cX2_gainNextNight 29 = .ok (.ifCond .ne 45, 3) := by decide +kernel
theorem dX2_gainNextNight_32 : decode cX2_gainNextNight 32 = .ok (.aload_n 0, 1) := by decide +kernel
theorem dX2_gainNextNight_33 : decode cX2_gainNextNight 33 = .ok (.getfield 18, 3) := by decide +kernel
theorem dX2_gainNextNight_36 : decode cX2_gainNextNight 36 = .ok (.iload_n 3, 1) := by decide +kernel
theorem dX2_gainNextNight_37 : decode cX2_gainNextNight 37 = .ok (.bipush 6, 2) := by decide +kernel
theorem dX2_gainNextNight_39 : decode cX2_gainNextNight 39 = .ok (.imul, 1) := by decide +kernel
theorem dX2_gainNextNight_40 : decode cX2_gainNextNight 40 = .ok (.iload 6, 2) := by decide +kernel
theorem dX2_gainNextNight_42 : decode cX2_gainNextNight 42 = .ok (.iadd, 1) := by decide +kernel
theorem dX2_gainNextNight_43 : decode cX2_gainNextNight 43 = .ok (.iaload, 1) := by decide +kernel
theorem dX2_gainNextNight_44 : decode cX2_gainNextNight 44 = .ok (.iconst 1, 1) := by decide +kernel
theorem dX2_gainNextNight_45 : decode cX2_gainNextNight 45 = .ok (.if_icmp .gt 29, 3) := by decide +kernel
theorem dX2_gainNextNight_48 : decode cX2_gainNextNight 48 = .ok (.iload 5, 2) := by decide +kernel
theorem dX2_gainNextNight_50 : decode cX2_gainNextNight 50 = .ok (.aload_n 0, 1) := by decide +kernel
theorem dX2_gainNextNight_51 : decode cX2_gainNextNight 51 = .ok (.iload_n 1, 1) := by decide +kernel
theorem dX2_gainNextNight_52 : decode cX2_gainNextNight 52 = .ok (.iconst 1, 1) := by decide +kernel
theorem dX2_gainNextNight_53 : decode cX2_gainNextNight 53 = .ok (.iadd, 1) := by decide +kernel
theorem dX2_gainNextNight_54 : decode cX2_gainNextNight 54 = .ok (.iload_n 2, 1) := by decide +kernel
theorem dX2_gainNextNight_55 : decode cX2_gainNextNight 55 = .ok (.iconst 1, 1) := by decide +kernel
theorem dX2_gainNextNight_56 : decode cX2_gainNextNight 56 = .ok (.iload 6, 2) := by decide +kernel
theorem dX2_gainNextNight_58 : decode cX2_gainNextNight 58 = .ok (.ishl, 1) := by decide +kernel
theorem dX2_gainNextNight_59 : decode cX2_gainNextNight 59 = .ok (.ior, 1) := by decide +kernel
theorem dX2_gainNextNight_60 : decode cX2_gainNextNight 60 = .ok (.iload 6, 2) := by decide +kernel
theorem dX2_gainNextNight_62 : decode cX2_gainNextNight 62 = .ok (.iload 4, 2) := by decide +kernel
theorem dX2_gainNextNight_64 : decode cX2_gainNextNight 64 = .ok (.iconst 1, 1) := by decide +kernel
theorem dX2_gainNextNight_65 : decode cX2_gainNextNight 65 = .ok (.iadd, 1) := by decide +kernel
theorem dX2_gainNextNight_66 : decode cX2_gainNextNight 66 = .ok (.invokevirtual 96, 3) := by decide +kernel
theorem dX2_gainNextNight_69 : decode cX2_gainNextNight 69 = .ok (.invokestatic 45, 3) := by decide +kernel
theorem dX2_gainNextNight_72 : decode cX2_gainNextNight 72 = .ok (.istore 5, 2) := by decide +kernel
theorem dX2_gainNextNight_74 : decode cX2_gainNextNight 74 = .ok (.iinc 6 1, 3) := by decide +kernel
theorem dX2_gainNextNight_77 : decode cX2_gainNextNight 77 = .ok (.goto (-71), 3) := by decide +kernel
theorem dX2_gainNextNight_80 : decode cX2_gainNextNight 80 = .ok (.iload 5, 2) := by decide +kernel
theorem dX2_gainNextNight_82 : decode cX2_gainNextNight 82 = .ok (.ireturn, 1) := by decide +kernel
theorem dX2_mostPoints_0 : decode cX2_mostPoints 0 = .ok (.iconst 0, 1) := by decide +kernel
theorem dX2_mostPoints_1 : decode cX2_mostPoints 1 = .ok (.istore_n 1, 1) := by decide +kernel
theorem dX2_mostPoints_2 : decode cX2_mostPoints 2 = .ok (.iconst 0, 1) := by decide +kernel
theorem dX2_mostPoints_3 : decode cX2_mostPoints 3 = .ok (.istore_n 2, 1) := by decide +kernel
theorem dX2_mostPoints_4 : decode cX2_mostPoints 4 = .ok (.iload_n 2, 1) := by decide +kernel
theorem dX2_mostPoints_5 : decode cX2_mostPoints 5 = .ok (.aload_n 0, 1) := by decide +kernel
theorem dX2_mostPoints_6 : decode cX2_mostPoints 6 = .ok (.getfield 28, 3) := by decide +kernel
theorem dX2_mostPoints_9 : decode cX2_mostPoints 9 = .ok (.if_icmp .ge 27, 3) := by decide +kernel
theorem dX2_mostPoints_12 : decode cX2_mostPoints 12 = .ok (.iload_n 1, 1) := by decide +kernel
theorem dX2_mostPoints_13 : decode cX2_mostPoints 13 = .ok (.aload_n 0, 1) := by decide +kernel
theorem dX2_mostPoints_14 : decode cX2_mostPoints 14 = .ok (.aload_n 0, 1) := by decide +kernel
theorem dX2_mostPoints_15 : decode cX2_mostPoints 15 = .ok (.getfield 37, 3) := by decide +kernel
theorem dX2_mostPoints_18 : decode cX2_mostPoints 18 = .ok (.iconst 1, 1) := by decide +kernel
theorem dX2_mostPoints_19 : decode cX2_mostPoints 19 = .ok (.iload_n 2, 1) := by decide +kernel
theorem dX2_mostPoints_20 : decode cX2_mostPoints 20 = .ok (.ishl, 1) := by decide +kernel
theorem dX2_mostPoints_21 : decode cX2_mostPoints 21 = .ok (.iload_n 2, 1) := by decide +kernel
theorem dX2_mostPoints_22 : decode cX2_mostPoints 22 = .ok (.iconst 0, 1) := by decide +kernel
theorem dX2_mostPoints_23 : decode cX2_mostPoints 23 = .ok (.invokevirtual 96, 3) := by decide +kernel
theorem dX2_mostPoints_26 : decode cX2_mostPoints 26 = .ok (.invokestatic 45, 3) := by decide +kernel
theorem dX2_mostPoints_29 : decode cX2_mostPoints 29 = .ok (.istore_n 1, 1) := by decide +kernel
theorem dX2_mostPoints_30 : decode cX2_mostPoints 30 = .ok (.iinc 2 1, 3) := by decide +kernel
theorem dX2_mostPoints_33 : decode cX2_mostPoints 33 = .ok (.goto (-29), 3) := by decide +kernel
theorem dX2_mostPoints_36 : decode cX2_mostPoints 36 = .ok (.iload_n 1, 1) := by decide +kernel
theorem dX2_mostPoints_37 : decode cX2_mostPoints 37 = .ok (.ireturn, 1) := by decide +kernel
theorem dX2_firstBringing_0 : decode cX2_firstBringing 0 = .ok (.iconst 0, 1) := by decide +kernel
theorem dX2_firstBringing_1 : decode cX2_firstBringing 1 = .ok (.istore 7, 2) := by decide +kernel
theorem dX2_firstBringing_3 : decode cX2_firstBringing 3 = .ok (.iload 7, 2) := by decide +kernel
theorem dX2_firstBringing_5 : decode cX2_firstBringing 5 = .ok (.aload_n 0, 1) := by decide +kernel
theorem dX2_firstBringing_6 : decode cX2_firstBringing 6 = .ok (.getfield 28, 3) := by decide +kernel
theorem dX2_firstBringing_9 : decode cX2_firstBringing 9 = .ok (.if_icmp .ge 76, 3) := by decide +kernel
theorem dX2_firstBringing_12 : decode cX2_firstBringing 12 = .ok (.iload 4, 2) := by decide +kernel
theorem dX2_firstBringing_14 : decode cX2_firstBringing 14 = .ok (.iconst (-1), 1) := by decide +kernel
theorem dX2_firstBringing_15 : decode cX2_firstBringing 15 = .ok (.if_icmp .eq 21, 3) := by decide +kernel
theorem dX2_firstBringing_18 : decode cX2_firstBringing 18 = .ok (.aload_n 0, 1) := by decide +kernel
theorem dX2_firstBringing_19 : decode cX2_firstBringing 19 = .ok (.getfield 18, 3) := by decide +kernel
theorem dX2_firstBringing_22 : decode cX2_firstBringing 22 = .ok (.iload 4, 2) := by decide +kernel
theorem dX2_firstBringing_24 : decode cX2_firstBringing 24 = .ok (.bipush 6, 2) := by decide +kernel
theorem dX2_firstBringing_26 : decode cX2_firstBringing 26 = .ok (.imul, 1) := by decide +kernel
theorem dX2_firstBringing_27 : decode cX2_firstBringing 27 = .ok (.iload 7, 2) := by decide +kernel
theorem dX2_firstBringing_29 : decode cX2_firstBringing 29 = .ok (.iadd, 1) := by decide +kernel
theorem dX2_firstBringing_30 : decode cX2_firstBringing 30 = .ok (.iaload, 1) := by decide +kernel
theorem dX2_firstBringing_31 : decode cX2_firstBringing 31 = .ok (.iload 5, 2) := by decide +kernel
theorem dX2_firstBringing_33 : decode cX2_firstBringing 33 = .ok (.if_icmp .gt 7, 3) := by decide +kernel
theorem dX2_firstBringing_36 : decode cX2_firstBringing 36 = .ok (.iconst 1, 1) := by decide +kernel
theorem dX2_firstBringing_37 : decode cX2_firstBringing 37 = .ok (.goto 4, 3) := by decide +kernel
theorem dX2_firstBringing_40 : decode cX2_firstBringing 40 = .ok (.iconst 0, 1) := by decide +kernel
theorem dX2_firstBringing_41 : decode cX2_firstBringing 41 = .ok (.istore 8, 2) := by decide +kernel
theorem dX2_firstBringing_43 : decode cX2_firstBringing 43 = .ok (.iload 8, 2) := by decide +kernel
theorem dX2_firstBringing_45 : decode cX2_firstBringing 45 = .ok (.ifCond .eq 34, 3) := by decide +kernel
theorem dX2_firstBringing_48 : decode cX2_firstBringing 48 = .ok (.iload_n 3, 1) := by decide +kernel
theorem dX2_firstBringing_49 : decode cX2_firstBringing 49 = .ok (.iload 7, 2) := by decide +kernel
theorem dX2_firstBringing_51 : decode cX2_firstBringing 51 = .ok (.invokestatic 66, 3) := by decide +kernel
theorem dX2_firstBringing_54 : decode cX2_firstBringing 54 = .ok (.ifCond .ne 25, 3) := by decide +kernel
theorem dX2_firstBringing_57 : decode cX2_firstBringing 57 = .ok (.aload_n 0, 1) := by decide +kernel
theorem dX2_firstBringing_58 : decode cX2_firstBringing 58 = .ok (.iload_n 2, 1) := by decide +kernel
theorem dX2_firstBringing_59 : decode cX2_firstBringing 59 = .ok (.iload_n 3, 1) := by decide +kernel
theorem dX2_firstBringing_60 : decode cX2_firstBringing 60 = .ok (.iconst 1, 1) := by decide +kernel
theorem dX2_firstBringing_61 : decode cX2_firstBringing 61 = .ok (.iload 7, 2) := by decide +kernel
theorem dX2_firstBringing_63 : decode cX2_firstBringing 63 = .ok (.ishl, 1) := by decide +kernel
theorem dX2_firstBringing_64 : decode cX2_firstBringing 64 = .ok (.ior, 1) := by decide +kernel
theorem dX2_firstBringing_65 : decode cX2_firstBringing 65 = .ok (.iload 7, 2) := by decide +kernel
theorem dX2_firstBringing_67 : decode cX2_firstBringing 67 = .ok (.iload 6, 2) := by decide +kernel
theorem dX2_firstBringing_69 : decode cX2_firstBringing 69 = .ok (.invokevirtual 96, 3) := by decide +kernel
theorem dX2_firstBringing_72 : decode cX2_firstBringing 72 = .ok (.iload_n 1, 1) := by decide +kernel
theorem dX2_firstBringing_73 : decode cX2_firstBringing 73 = .ok (.if_icmp .ne 6, 3) := by decide +kernel
theorem dX2_firstBringing_76 : decode cX2_firstBringing 76 = .ok (.iload 7, 2) := by decide +kernel
theorem dX2_firstBringing_78 : decode cX2_firstBringing 78 = .ok (.ireturn, 1) := by decide +kernel
theorem dX2_firstBringing_79 : decode cX2_firstBringing 79 = .ok (.iinc 7 1, 3) := by decide +kernel
theorem dX2_firstBringing_82 : decode cX2_firstBringing 82 = .ok (.goto (-79), 3) := by decide +kernel
theorem dX2_firstBringing_85 : decode cX2_firstBringing 85 = .ok (.iconst (-1), 1) := by decide +kernel
theorem dX2_firstBringing_86 : decode cX2_firstBringing 86 = .ok (.ireturn, 1) := by decide +kernel
theorem dX2_weigh_0 : decode cX2_weigh 0 = .ok (.lconst 0, 1) := by decide +kernel
theorem dX2_weigh_1 : decode cX2_weigh 1 = .ok (.lstore 4, 2) := by decide +kernel
theorem dX2_weigh_3 : decode cX2_weigh 3 = .ok (.aload_n 0, 1) := by decide +kernel
theorem dX2_weigh_4 : decode cX2_weigh 4 = .ok (.getfield 21, 3) := by decide +kernel
theorem dX2_weigh_7 : decode cX2_weigh 7 = .ok (.iload_n 3, 1) := by decide +kernel
theorem dX2_weigh_8 : decode cX2_weigh 8 = .ok (.iaload, 1) := by decide +kernel
theorem dX2_weigh_9 : decode cX2_weigh 9 = .ok (.iload_n 1, 1) := by decide +kernel
theorem dX2_weigh_10 : decode cX2_weigh 10 = .ok (.invokestatic 66, 3) := by decide +kernel
theorem dX2_weigh_13 : decode cX2_weigh 13 = .ok (.ifCond .ne 74, 3) := by decide +kernel
theorem dX2_weigh_16 : decode cX2_weigh 16 = .ok (.aload_n 0, 1) := by decide +kernel
theorem dX2_weigh_17 : decode cX2_weigh 17 = .ok (.iload_n 1, 1) := by decide +kernel
theorem dX2_weigh_18 : decode cX2_weigh 18 = .ok (.iload_n 2, 1) := by decide +kernel
theorem dX2_weigh_19 : decode cX2_weigh 19 = .ok (.iload_n 3, 1) := by decide +kernel
theorem dX2_weigh_20 : decode cX2_weigh 20 = .ok (.invokevirtual 78, 3) := by decide +kernel
theorem dX2_weigh_23 : decode cX2_weigh 23 = .ok (.istore 6, 2) := by decide +kernel
theorem dX2_weigh_25 : decode cX2_weigh 25 = .ok (.iconst 1, 1) := by decide +kernel
theorem dX2_weigh_26 : decode cX2_weigh 26 = .ok (.istore 7, 2) := by decide +kernel
theorem dX2_weigh_28 : decode cX2_weigh 28 = .ok (.iload 7, 2) := by decide +kernel
theorem dX2_weigh_30 : decode cX2_weigh 30 = .ok (.aload_n 0, 1) := by decide +kernel
theorem dX2_weigh_31 : decode cX2_weigh 31 = .ok (.getfield 55, 3) := by decide +kernel
theorem dX2_weigh_34 : decode cX2_weigh 34 = .ok (.if_icmp .gt 53, 3) := by decide +kernel
theorem dX2_weigh_37 : decode cX2_weigh 37 = .ok (.iload 7, 2) := by decide +kernel
theorem dX2_weigh_39 : decode cX2_weigh 39 = .ok (.iload_n 2, 1) := by decide +kernel
theorem dX2_weigh_40 : decode cX2_weigh 40 = .ok (.invokestatic 82, 3) := by decide +kernel
theorem dX2_weigh_43 : decode cX2_weigh 43 = .ok (.if_icmp .gt 44, 3) := by decide +kernel
theorem dX2_weigh_46 : decode cX2_weigh 46 = .ok (.iload 6, 2) := by decide +kernel
theorem dX2_weigh_48 : decode cX2_weigh 48 = .ok (.aload_n 0, 1) := by decide +kernel
theorem dX2_weigh_49 : decode cX2_weigh 49 = .ok (.iload_n 1, 1) := by decide +kernel
theorem dX2_weigh_50 : decode cX2_weigh 50 = .ok (.iload_n 2, 1) := by decide +kernel
theorem dX2_weigh_51 : decode cX2_weigh 51 = .ok (.iload_n 3, 1) := by decide +kernel
theorem dX2_weigh_52 : decode cX2_weigh 52 = .ok (.iload 7, 2) := by decide +kernel
theorem dX2_weigh_54 : decode cX2_weigh 54 = .ok (.invokevirtual 88, 3) := by decide +kernel
theorem dX2_weigh_57 : decode cX2_weigh 57 = .ok (.invokestatic 45, 3) := by decide +kernel
theorem dX2_weigh_60 : decode cX2_weigh 60 = .ok (.istore 8, 2) := by decide +kernel
theorem dX2_weigh_62 : decode cX2_weigh 62 = .ok (.lload 4, 2) := by decide +kernel
theorem dX2_weigh_64 : decode cX2_weigh 64 = .ok (.aload_n 0, 1) := by decide +kernel
theorem dX2_weigh_65 : decode cX2_weigh 65 = .ok (.getfield 15, 3) := by decide +kernel
theorem dX2_weigh_68 : decode cX2_weigh 68 = .ok (.iload_n 3, 1) := by decide +kernel
theorem dX2_weigh_69 : decode cX2_weigh 69 = .ok (.iaload, 1) := by decide +kernel
theorem dX2_weigh_70 : decode cX2_weigh 70 = .ok (.iload 8, 2) := by decide +kernel
theorem dX2_weigh_72 : decode cX2_weigh 72 = .ok (.iadd, 1) := by decide +kernel
theorem dX2_weigh_73 : decode cX2_weigh 73 = .ok (.iload 7, 2) := by decide +kernel
theorem dX2_weigh_75 : decode cX2_weigh 75 = .ok (.invokestatic 92, 3) := by decide +kernel
theorem dX2_weigh_78 : decode cX2_weigh 78 = .ok (.lor, 1) := by decide +kernel
theorem dX2_weigh_79 : decode cX2_weigh 79 = .ok (.lstore 4, 2) := by decide +kernel
theorem dX2_weigh_81 : decode cX2_weigh 81 = .ok (.iinc 7 1, 3) := by decide +kernel
theorem dX2_weigh_84 : decode cX2_weigh 84 = .ok (.goto (-56), 3) := by decide +kernel
theorem dX2_weigh_87 : decode cX2_weigh 87 = .ok (.iload_n 1, 1) := by decide +kernel
theorem dX2_weigh_88 : decode cX2_weigh 88 = .ok (.aload_n 0, 1) := by decide +kernel
theorem dX2_weigh_89 : decode cX2_weigh 89 = .ok (.getfield 41, 3) := by decide +kernel
theorem dX2_weigh_92 : decode cX2_weigh 92 = .ok (.if_icmp .ge 16, 3) := by decide +kernel
theorem dX2_weigh_95 : decode cX2_weigh 95 = .ok (.aload_n 0, 1) := by decide +kernel
theorem dX2_weigh_96 : decode cX2_weigh 96 = .ok (.iload_n 1, 1) := by decide +kernel
theorem dX2_weigh_97 : decode cX2_weigh 97 = .ok (.iconst 1, 1) := by decide +kernel
theorem dX2_weigh_98 : decode cX2_weigh 98 = .ok (.iadd, 1) := by decide +kernel
theorem dX2_weigh_99 : decode cX2_weigh 99 = .ok (.iload_n 2, 1) := by decide +kernel
theorem dX2_weigh_100 : decode cX2_weigh 100 = .ok (.iload_n 3, 1) := by decide +kernel
theorem dX2_weigh_101 : decode cX2_weigh 101 = .ok (.iconst 0, 1) := by decide +kernel
theorem dX2_weigh_102 : decode cX2_weigh 102 = .ok (.invokevirtual 96, 3) := by decide +kernel
theorem dX2_weigh_105 : decode cX2_weigh 105 = .ok (.goto 4, 3) := by decide +kernel
theorem dX2_weigh_108 : decode cX2_weigh 108 = .ok (.iconst 0, 1) := by decide +kernel
theorem dX2_weigh_109 : decode cX2_weigh 109 = .ok (.istore 6, 2) := by decide +kernel
theorem dX2_weigh_111 : decode cX2_weigh 111 = .ok (.lload 4, 2) := by decide +kernel
theorem dX2_weigh_113 : decode cX2_weigh 113 = .ok (.iload 6, 2) := by decide +kernel
theorem dX2_weigh_115 : decode cX2_weigh 115 = .ok (.lload 4, 2) := by decide +kernel
theorem dX2_weigh_117 : decode cX2_weigh 117 = .ok (.iconst 1, 1) := by decide +kernel
theorem dX2_weigh_118 : decode cX2_weigh 118 = .ok (.invokestatic 99, 3) := by decide +kernel
theorem dX2_weigh_121 : decode cX2_weigh 121 = .ok (.invokestatic 45, 3) := by decide +kernel
theorem dX2_weigh_124 : decode cX2_weigh 124 = .ok (.iconst 0, 1) := by decide +kernel
theorem dX2_weigh_125 : decode cX2_weigh 125 = .ok (.invokestatic 92, 3) := by decide +kernel
theorem dX2_weigh_128 : decode cX2_weigh 128 = .ok (.lor, 1) := by decide +kernel
theorem dX2_weigh_129 : decode cX2_weigh 129 = .ok (.lstore 4, 2) := by decide +kernel
theorem dX2_weigh_131 : decode cX2_weigh 131 = .ok (.aload_n 0, 1) := by decide +kernel
theorem dX2_weigh_132 : decode cX2_weigh 132 = .ok (.getfield 24, 3) := by decide +kernel
theorem dX2_weigh_135 : decode cX2_weigh 135 = .ok (.iload_n 1, 1) := by decide +kernel
theorem dX2_weigh_136 : decode cX2_weigh 136 = .ok (.iload_n 2, 1) := by decide +kernel
theorem dX2_weigh_137 : decode cX2_weigh 137 = .ok (.iload_n 3, 1) := by decide +kernel
theorem dX2_weigh_138 : decode cX2_weigh 138 = .ok (.invokestatic 103, 3) := by decide +kernel
theorem dX2_weigh_141 : decode cX2_weigh 141 = .ok (.lload 4, 2) := by decide +kernel
theorem dX2_weigh_143 : decode cX2_weigh 143 = .ok (.lastore, 1) := by decide +kernel
theorem dX2_weigh_144 : decode cX2_weigh 144 = .ok (.return_, 1) := by decide +kernel
theorem dX2_walk_0 : decode cX2_walk 0 = .ok (.aload_n 0, 1) := by decide +kernel
theorem dX2_walk_1 : decode cX2_walk 1 = .ok (.invokevirtual 106, 3) := by decide +kernel
theorem dX2_walk_4 : decode cX2_walk 4 = .ok (.istore_n 2, 1) := by decide +kernel
theorem dX2_walk_5 : decode cX2_walk 5 = .ok (.iconst 0, 1) := by decide +kernel
theorem dX2_walk_6 : decode cX2_walk 6 = .ok (.istore_n 3, 1) := by decide +kernel
theorem dX2_walk_7 : decode cX2_walk 7 = .ok (.iconst (-1), 1) := by decide +kernel
theorem dX2_walk_8 : decode cX2_walk 8 = .ok (.istore 4, 2) := by decide +kernel
theorem dX2_walk_10 : decode cX2_walk 10 = .ok (.iconst (-1), 1) := by decide +kernel
theorem dX2_walk_11 : decode cX2_walk 11 = .ok (.istore 5, 2) := by decide +kernel
theorem dX2_walk_13 : decode cX2_walk 13 = .ok (.iconst 0, 1) := by decide +kernel
theorem dX2_walk_14 : decode cX2_walk 14 = .ok (.istore 6, 2) := by decide +kernel
theorem dX2_walk_16 : decode cX2_walk 16 = .ok (.aload_n 0, 1) := by decide +kernel
theorem dX2_walk_17 : decode cX2_walk 17 = .ok (.getfield 37, 3) := by decide +kernel
theorem dX2_walk_20 : decode cX2_walk 20 = .ok (.istore 7, 2) := by decide +kernel
theorem dX2_walk_22 : decode cX2_walk 22 = .ok (.iload 7, 2) := by decide +kernel
theorem dX2_walk_24 : decode cX2_walk 24 = .ok (.aload_n 0, 1) := by decide +kernel
theorem dX2_walk_25 : decode cX2_walk 25 = .ok (.getfield 41, 3) := by decide +kernel
theorem dX2_walk_28 : decode cX2_walk 28 = .ok (.if_icmp .gt 102, 3) := by decide +kernel
theorem dX2_walk_31 : decode cX2_walk 31 = .ok (.iload_n 2, 1) := by decide +kernel
theorem dX2_walk_32 : decode cX2_walk 32 = .ok (.ifCond .le 98, 3) := by decide +kernel
theorem dX2_walk_35 : decode cX2_walk 35 = .ok (.iload 4, 2) := by decide +kernel
theorem dX2_walk_37 : decode cX2_walk 37 = .ok (.iconst (-1), 1) := by decide +kernel
theorem dX2_walk_38 : decode cX2_walk 38 = .ok (.if_icmp .eq 19, 3) := by decide +kernel
theorem dX2_walk_41 : decode cX2_walk 41 = .ok (.iload 5, 2) := by decide +kernel
theorem dX2_walk_43 : decode cX2_walk 43 = .ok (.iload 7, 2) := by decide +kernel
theorem dX2_walk_45 : decode cX2_walk 45 = .ok (.iconst 1, 1) := by decide +kernel
theorem dX2_walk_46 : decode cX2_walk 46 = .ok (.isub, 1) := by decide +kernel
theorem dX2_walk_47 : decode cX2_walk 47 = .ok (.if_icmp .ne 10, 3) := by decide +kernel
theorem dX2_walk_50 : decode cX2_walk 50 = .ok (.iload 6, 2) := by decide +kernel
theorem dX2_walk_52 : decode cX2_walk 52 = .ok (.iconst 1, 1) := by decide +kernel
theorem dX2_walk_53 : decode cX2_walk 53 = .ok (.iadd, 1) := by decide +kernel
theorem dX2_walk_54 : decode cX2_walk 54 = .ok (.goto 4, 3) := by decide +kernel
theorem dX2_walk_57 : decode cX2_walk 57 = .ok (.iconst 1, 1) := by decide +kernel
theorem dX2_walk_58 : decode cX2_walk 58 = .ok (.istore 6, 2) := by decide +kernel
theorem dX2_walk_60 : decode cX2_walk 60 = .ok (.aload_n 0, 1) := by decide +kernel
theorem dX2_walk_61 : decode cX2_walk 61 = .ok (.iload_n 2, 1) := by decide +kernel
theorem dX2_walk_62 : decode cX2_walk 62 = .ok (.iload 7, 2) := by decide +kernel
theorem dX2_walk_64 : decode cX2_walk 64 = .ok (.iload_n 3, 1) := by decide +kernel
theorem dX2_walk_65 : decode cX2_walk 65 = .ok (.iload 4, 2) := by decide +kernel
theorem dX2_walk_67 : decode cX2_walk 67 = .ok (.iload 7, 2) := by decide +kernel
theorem dX2_walk_69 : decode cX2_walk 69 = .ok (.iload 5, 2) := by decide +kernel
theorem dX2_walk_71 : decode cX2_walk 71 = .ok (.isub, 1) := by decide +kernel
theorem dX2_walk_72 : decode cX2_walk 72 = .ok (.iload 6, 2) := by decide +kernel
theorem dX2_walk_74 : decode cX2_walk 74 = .ok (.invokevirtual 110, 3) := by decide +kernel
theorem dX2_walk_77 : decode cX2_walk 77 = .ok (.istore 8, 2) := by decide +kernel
theorem dX2_walk_79 : decode cX2_walk 79 = .ok (.iload 8, 2) := by decide +kernel
theorem dX2_walk_81 : decode cX2_walk 81 = .ok (.iconst (-1), 1) := by decide +kernel
theorem dX2_walk_82 : decode cX2_walk 82 = .ok (.if_icmp .eq 42, 3) := by decide +kernel
theorem dX2_walk_85 : decode cX2_walk 85 = .ok (.aload_n 1, 1) := by decide +kernel
theorem dX2_walk_86 : decode cX2_walk 86 = .ok (.getfield 114, 3) := by decide +kernel
theorem dX2_walk_89 : decode cX2_walk 89 = .ok (.iload 7, 2) := by decide +kernel
theorem dX2_walk_91 : decode cX2_walk 91 = .ok (.aload_n 0, 1) := by decide +kernel
theorem dX2_walk_92 : decode cX2_walk 92 = .ok (.getfield 11, 3) := by decide +kernel
theorem dX2_walk_95 : decode cX2_walk 95 = .ok (.iload 8, 2) := by decide +kernel
theorem dX2_walk_97 : decode cX2_walk 97 = .ok (.iaload, 1) := by decide +kernel
theorem dX2_walk_98 : decode cX2_walk 98 = .ok (.iastore, 1) := by decide +kernel
theorem dX2_walk_99 : decode cX2_walk 99 = .ok (.iload_n 2, 1) := by decide +kernel
theorem dX2_walk_100 : decode cX2_walk 100 = .ok (.aload_n 0, 1) := by decide +kernel
theorem dX2_walk_101 : decode cX2_walk 101 = .ok (.getfield 15, 3) := by decide +kernel
theorem dX2_walk_104 : decode cX2_walk 104 = .ok (.iload 8, 2) := by decide +kernel
theorem dX2_walk_106 : decode cX2_walk 106 = .ok (.iaload, 1) := by decide +kernel
theorem dX2_walk_107 : decode cX2_walk 107 = .ok (.isub, 1) := by decide +kernel
theorem dX2_walk_108 : decode cX2_walk 108 = .ok (.istore_n 2, 1) := by decide +kernel
theorem dX2_walk_109 : decode cX2_walk 109 = .ok (.iload_n 3, 1) := by decide +kernel
theorem dX2_walk_110 : decode cX2_walk 110 = .ok (.iconst 1, 1) := by decide +kernel
theorem dX2_walk_111 : decode cX2_walk 111 = .ok (.iload 8, 2) := by decide +kernel
theorem dX2_walk_113 : decode cX2_walk 113 = .ok (.ishl, 1) := by decide +kernel
theorem dX2_walk_114 : decode cX2_walk 114 = .ok (.ior, 1) := by decide +kernel
theorem dX2_walk_115 : decode cX2_walk 115 = .ok (.istore_n 3, 1) := by decide +kernel
theorem dX2_walk_116 : decode cX2_walk 116 = .ok (.iload 8, 2) := by decide +kernel
theorem dX2_walk_118 : decode cX2_walk 118 = .ok (.istore 4, 2) := by decide +kernel
theorem dX2_walk_120 : decode cX2_walk 120 = .ok (.iload 7, 2) := by decide +kernel
theorem dX2_walk_122 : decode cX2_walk 122 = .ok (.istore 5, 2) := by decide +kernel
theorem dX2_walk_124 : decode cX2_walk 124 = .ok (.iinc 7 1, 3) := by decide +kernel
theorem dX2_walk_127 : decode cX2_walk 127 = .ok (.goto (-105), 3) := by decide +kernel
theorem dX2_walk_130 : decode cX2_walk 130 = .ok (.return_, 1) := by decide +kernel
theorem dX2_bookBest_0 : decode cX2_bookBest 0 = .ok (.aload_n 0, 1) := by decide +kernel
theorem dX2_bookBest_1 : decode cX2_bookBest 1 = .ok (.getfield 41, 3) := by decide +kernel
theorem dX2_bookBest_4 : decode cX2_bookBest 4 = .ok (.istore_n 2, 1) := by decide +kernel
theorem dX2_bookBest_5 : decode cX2_bookBest 5 = .ok (.iload_n 2, 1) := by decide +kernel
theorem dX2_bookBest_6 : decode cX2_bookBest 6 = .ok (.aload_n 0, 1) := by decide +kernel
theorem dX2_bookBest_7 : decode cX2_bookBest 7 = .ok (.getfield 37, 3) := by decide +kernel
theorem dX2_bookBest_10 : decode cX2_bookBest 10 = .ok (.if_icmp .lt 62, 3) := by decide +kernel
theorem dX2_bookBest_13 : decode cX2_bookBest 13 = .ok (.iconst 1, 1) := by decide +kernel
theorem dX2_bookBest_14 : decode cX2_bookBest 14 = .ok (.istore_n 3, 1) := by decide +kernel
theorem dX2_bookBest_15 : decode cX2_bookBest 15 = .ok (.iload_n 3, 1) := by decide +kernel
theorem dX2_bookBest_16 : decode cX2_bookBest 16 = .ok (.iconst 1, 1) := by decide +kernel
theorem dX2_bookBest_17 : decode cX2_bookBest 17 = .ok (.aload_n 0, 1) := by decide +kernel
theorem dX2_bookBest_18 : decode cX2_bookBest 18 = .ok (.getfield 28, 3) := by decide +kernel
theorem dX2_bookBest_21 : decode cX2_bookBest 21 = .ok (.ishl, 1) := by decide +kernel
theorem dX2_bookBest_22 : decode cX2_bookBest 22 = .ok (.if_icmp .ge 44, 3) := by decide +kernel
theorem dX2_bookBest_25 : decode cX2_bookBest 25 = .ok (.iconst 0, 1) := by decide +kernel
theorem dX2_bookBest_26 : decode cX2_bookBest 26 = .ok (.istore 4, 2) := by decide +kernel
theorem dX2_bookBest_28 : decode cX2_bookBest 28 = .ok (.iload 4, 2) := by decide +kernel
theorem dX2_bookBest_30 : decode cX2_bookBest 30 = .ok (.aload_n 0, 1) := by decide +kernel
theorem dX2_bookBest_31 : decode cX2_bookBest 31 = .ok (.getfield 28, 3) := by decide +kernel
theorem dX2_bookBest_34 : decode cX2_bookBest 34 = .ok (.if_icmp .ge 26, 3) := by decide +kernel
theorem dX2_bookBest_37 : decode cX2_bookBest 37 = .ok (.iload_n 3, 1) := by decide +kernel
theorem dX2_bookBest_38 : decode cX2_bookBest 38 = .ok (.iload 4, 2) := by decide +kernel
theorem dX2_bookBest_40 : decode cX2_bookBest 40 = .ok (.invokestatic 66, 3) := by decide +kernel
theorem dX2_bookBest_43 : decode cX2_bookBest 43 = .ok (.ifCond .eq 11, 3) := by decide +kernel
theorem dX2_bookBest_46 : decode cX2_bookBest 46 = .ok (.aload_n 0, 1) := by decide +kernel
theorem dX2_bookBest_47 : decode cX2_bookBest 47 = .ok (.iload_n 2, 1) := by decide +kernel
theorem dX2_bookBest_48 : decode cX2_bookBest 48 = .ok (.iload_n 3, 1) := by decide +kernel
theorem dX2_bookBest_49 : decode cX2_bookBest 49 = .ok (.iload 4, 2) := by decide +kernel
theorem dX2_bookBest_51 : decode cX2_bookBest 51 = .ok (.invokevirtual 70, 3) := by decide +kernel
theorem dX2_bookBest_54 : decode cX2_bookBest 54 = .ok (.iinc 4 1, 3) := by decide +kernel
theorem dX2_bookBest_57 : decode cX2_bookBest 57 = .ok (.goto (-29), 3) := by decide +kernel
theorem dX2_bookBest_60 : decode cX2_bookBest 60 = .ok (.iinc 3 1, 3) := by decide +kernel
theorem dX2_bookBest_63 : decode cX2_bookBest 63 = .ok (.goto (-48), 3) := by decide +kernel
theorem dX2_bookBest_66 : decode cX2_bookBest 66 = .ok (.iinc 2 (-1), 3) := by decide +kernel
theorem dX2_bookBest_69 : decode cX2_bookBest 69 = .ok (.goto (-64), 3) := by decide +kernel
theorem dX2_bookBest_72 : decode cX2_bookBest 72 = .ok (.aload_n 0, 1) := by decide +kernel
theorem dX2_bookBest_73 : decode cX2_bookBest 73 = .ok (.aload_n 1, 1) := by decide +kernel
theorem dX2_bookBest_74 : decode cX2_bookBest 74 = .ok (.invokevirtual 74, 3) := by decide +kernel
theorem dX2_bookBest_77 : decode cX2_bookBest 77 = .ok (.return_, 1) := by decide +kernel
