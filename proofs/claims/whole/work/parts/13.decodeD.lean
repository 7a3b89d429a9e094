theorem dX7_refuse_0 : decode cX7_refuse 0 = .ok (.aload_n 0, 1) := by decide +kernel
theorem dX7_refuse_1 : decode cX7_refuse 1 = .ok (.iload_n 1, 1) := by decide +kernel
theorem dX7_refuse_2 : decode cX7_refuse 2 = .ok (.putfield 49, 3) := by decide +kernel
theorem dX7_refuse_5 : decode cX7_refuse 5 = .ok (.aload_n 0, 1) := by decide +kernel
theorem dX7_refuse_6 : decode cX7_refuse 6 = .ok (.aload_n 0, 1) := by decide +kernel
theorem dX7_refuse_7 : decode cX7_refuse 7 = .ok (.getfield 142, 3) := by decide +kernel
theorem dX7_refuse_10 : decode cX7_refuse 10 = .ok (.putfield 52, 3) := by decide +kernel
theorem dX7_refuse_13 : decode cX7_refuse 13 = .ok (.iconst 0, 1) := by decide +kernel
theorem dX7_refuse_14 : decode cX7_refuse 14 = .ok (.ireturn, 1) := by decide +kernel
theorem dX7_isBlank_0 : decode cX7_isBlank 0 = .ok (.iload_n 0, 1) := by decide +kernel
theorem dX7_isBlank_1 : decode cX7_isBlank 1 = .ok (.bipush 32, 2) := by decide +kernel
theorem dX7_isBlank_3 : decode cX7_isBlank 3 = .ok (.if_icmp .eq 9, 3) := by decide +kernel
theorem dX7_isBlank_6 : decode cX7_isBlank 6 = .ok (.iload_n 0, 1) := by decide +kernel
theorem dX7_isBlank_7 : decode cX7_isBlank 7 = .ok (.bipush 10, 2) := by decide +kernel
theorem dX7_isBlank_9 : decode cX7_isBlank 9 = .ok (.if_icmp .ne 7, 3) := by decide +kernel
theorem dX7_isBlank_12 : decode cX7_isBlank 12 = .ok (.iconst 1, 1) := by decide +kernel
theorem dX7_isBlank_13 : decode cX7_isBlank 13 = .ok (.goto 4, 3) := by decide +kernel
theorem dX7_isBlank_16 : decode cX7_isBlank 16 = .ok (.iconst 0, 1) := by decide +kernel
theorem dX7_isBlank_17 : decode cX7_isBlank 17 = .ok (.ireturn, 1) := by decide +kernel
theorem dX7_isLetter_0 : decode cX7_isLetter 0 = .ok (.iload_n 0, 1) := by decide +kernel
theorem dX7_isLetter_1 : decode cX7_isLetter 1 = .ok (.bipush 97, 2) := by decide +kernel
theorem dX7_isLetter_3 : decode cX7_isLetter 3 = .ok (.if_icmp .lt 13, 3) := by decide +kernel
theorem dX7_isLetter_6 : decode cX7_isLetter 6 = .ok (.iload_n 0, 1) := by decide +kernel
theorem dX7_isLetter_7 : decode cX7_isLetter 7 = .ok (.bipush 122, 2) := by decide +kernel
theorem dX7_isLetter_9 : decode cX7_isLetter 9 = .ok (.if_icmp .gt 7, 3) := by decide +kernel
theorem dX7_isLetter_12 : decode cX7_isLetter 12 = .ok (.iconst 1, 1) := by decide +kernel
theorem dX7_isLetter_13 : decode cX7_isLetter 13 = .ok (.goto 4, 3) := by decide +kernel
theorem dX7_isLetter_16 : decode cX7_isLetter 16 = .ok (.iconst 0, 1) := by decide +kernel
theorem dX7_isLetter_17 : decode cX7_isLetter 17 = .ok (.ireturn, 1) := by decide +kernel
theorem dX7_isDigit_0 : decode cX7_isDigit 0 = .ok (.iload_n 0, 1) := by decide +kernel
theorem dX7_isDigit_1 : decode cX7_isDigit 1 = .ok (.bipush 48, 2) := by decide +kernel
theorem dX7_isDigit_3 : decode cX7_isDigit 3 = .ok (.if_icmp .lt 13, 3) := by decide +kernel
theorem dX7_isDigit_6 : decode cX7_isDigit 6 = .ok (.iload_n 0, 1) := by decide +kernel
theorem dX7_isDigit_7 : decode cX7_isDigit 7 = .ok (.bipush 57, 2) := by decide +kernel
theorem dX7_isDigit_9 : decode cX7_isDigit 9 = .ok (.if_icmp .gt 7, 3) := by decide +kernel
theorem dX7_isDigit_12 : decode cX7_isDigit 12 = .ok (.iconst 1, 1) := by decide +kernel
theorem dX7_isDigit_13 : decode cX7_isDigit 13 = .ok (.goto 4, 3) := by decide +kernel
theorem dX7_isDigit_16 : decode cX7_isDigit 16 = .ok (.iconst 0, 1) := by decide +kernel
theorem dX7_isDigit_17 : decode cX7_isDigit 17 = .ok (.ireturn, 1) := by decide +kernel
theorem dX8_end_0 : decode cX8_end 0 = .ok (.iload_n 1, 1) := by decide +kernel
theorem dX8_end_1 : decode cX8_end 1 = .ok (.ifCond .lt 14, 3) := by decide +kernel
theorem dX8_end_4 : decode cX8_end 4 = .ok (.iload_n 1, 1) := by decide +kernel
theorem dX8_end_5 : decode cX8_end 5 = .ok (.aload_n 0, 1) := by decide +kernel
theorem dX8_end_6 : decode cX8_end 6 = .ok (.getfield 10, 3) := by decide +kernel
theorem dX8_end_9 : decode cX8_end 9 = .ok (.getfield 51, 3) := by decide +kernel
theorem dX8_end_12 : decode cX8_end 12 = .ok (.if_icmp .le 5, 3) := by decide +kernel
theorem dX8_end_15 : decode cX8_end 15 = .ok (.iconst 0, 1) := by decide +kernel
theorem dX8_end_16 : decode cX8_end 16 = .ok (.ireturn, 1) := by decide +kernel
theorem dX8_end_17 : decode cX8_end 17 = .ok (.aload_n 0, 1) := by decide +kernel
theorem dX8_end_18 : decode cX8_end 18 = .ok (.getfield 10, 3) := by decide +kernel
theorem dX8_end_21 : decode cX8_end 21 = .ok (.iload_n 1, 1) := by decide +kernel
theorem dX8_end_22 : decode cX8_end 22 = .ok (.putfield 51, 3) := by decide +kernel
theorem dX8_end_25 : decode cX8_end 25 = .ok (.iconst 1, 1) := by decide +kernel
theorem dX8_end_26 : decode cX8_end 26 = .ok (.ireturn, 1) := by decide +kernel
theorem dX8_fault_0 : decode cX8_fault 0 = .ok (.aload_n 0, 1) := by decide +kernel
theorem dX8_fault_1 : decode cX8_fault 1 = .ok (.getfield 45, 3) := by decide +kernel
theorem dX8_fault_4 : decode cX8_fault 4 = .ok (.getfield 203, 3) := by decide +kernel
theorem dX8_fault_7 : decode cX8_fault 7 = .ok (.ireturn, 1) := by decide +kernel
theorem dX8_isWithin_0 : decode cX8_isWithin 0 = .ok (.iload_n 0, 1) := by decide +kernel
theorem dX8_isWithin_1 : decode cX8_isWithin 1 = .ok (.iload_n 1, 1) := by decide +kernel
theorem dX8_isWithin_2 : decode cX8_isWithin 2 = .ok (.if_icmp .lt 12, 3) := by decide +kernel
theorem dX8_isWithin_5 : decode cX8_isWithin 5 = .ok (.iload_n 0, 1) := by decide +kernel
theorem dX8_isWithin_6 : decode cX8_isWithin 6 = .ok (.iload_n 2, 1) := by decide +kernel
theorem dX8_isWithin_7 : decode cX8_isWithin 7 = .ok (.if_icmp .gt 7, 3) := by decide +kernel
theorem dX8_isWithin_10 : decode cX8_isWithin 10 = .ok (.iconst 1, 1) := by decide +kernel
theorem dX8_isWithin_11 : decode cX8_isWithin 11 = .ok (.goto 4, 3) := by decide +kernel
theorem dX8_isWithin_14 : decode cX8_isWithin 14 = .ok (.iconst 0, 1) := by decide +kernel
theorem dX8_isWithin_15 : decode cX8_isWithin 15 = .ok (.ireturn, 1) := by decide +kernel
theorem dX8_isHall_0 : decode cX8_isHall 0 = .ok (.iload_n 1, 1) := by decide +kernel
theorem dX8_isHall_1 : decode cX8_isHall 1 = .ok (.ifCond .lt 15, 3) := by decide +kernel
theorem dX8_isHall_4 : decode cX8_isHall 4 = .ok (.iload_n 1, 1) := by decide +kernel
theorem dX8_isHall_5 : decode cX8_isHall 5 = .ok (.aload_n 0, 1) := by decide +kernel
theorem dX8_isHall_6 : decode cX8_isHall 6 = .ok (.getfield 59, 3) := by decide +kernel
theorem dX8_isHall_9 : decode cX8_isHall 9 = .ok (.if_icmp .ge 7, 3) := by decide +kernel
theorem dX8_isHall_12 : decode cX8_isHall 12 = .ok (.iconst 1, 1) := by decide +kernel
theorem dX8_isHall_13 : decode cX8_isHall 13 = .ok (.goto 4, 3) := by decide +kernel
theorem dX8_isHall_16 : decode cX8_isHall 16 = .ok (.iconst 0, 1) := by decide +kernel
theorem dX8_isHall_17 : decode cX8_isHall 17 = .ok (.ireturn, 1) := by decide +kernel
theorem dX8_isShow_0 : decode cX8_isShow 0 = .ok (.iload_n 1, 1) := by decide +kernel
theorem dX8_isShow_1 : decode cX8_isShow 1 = .ok (.ifCond .lt 15, 3) := by decide +kernel
theorem dX8_isShow_4 : decode cX8_isShow 4 = .ok (.iload_n 1, 1) := by decide +kernel
theorem dX8_isShow_5 : decode cX8_isShow 5 = .ok (.aload_n 0, 1) := by decide +kernel
theorem dX8_isShow_6 : decode cX8_isShow 6 = .ok (.getfield 80, 3) := by decide +kernel
theorem dX8_isShow_9 : decode cX8_isShow 9 = .ok (.if_icmp .ge 7, 3) := by decide +kernel
theorem dX8_isShow_12 : decode cX8_isShow 12 = .ok (.iconst 1, 1) := by decide +kernel
theorem dX8_isShow_13 : decode cX8_isShow 13 = .ok (.goto 4, 3) := by decide +kernel
theorem dX8_isShow_16 : decode cX8_isShow 16 = .ok (.iconst 0, 1) := by decide +kernel
theorem dX8_isShow_17 : decode cX8_isShow 17 = .ok (.ireturn, 1) := by decide +kernel
theorem dX8_showAt_0 : decode cX8_showAt 0 = .ok (.iconst 0, 1) := by decide +kernel
theorem dX8_showAt_1 : decode cX8_showAt 1 = .ok (.istore_n 3, 1) := by decide +kernel
theorem dX8_showAt_2 : decode cX8_showAt 2 = .ok (.iload_n 3, 1) := by decide +kernel
theorem dX8_showAt_3 : decode cX8_showAt 3 = .ok (.aload_n 0, 1) := by decide +kernel
theorem dX8_showAt_4 : decode cX8_showAt 4 = .ok (.getfield 80, 3) := by decide +kernel
theorem dX8_showAt_7 : decode cX8_showAt 7 = .ok (.if_icmp .ge 26, 3) := by decide +kernel
theorem dX8_showAt_10 : decode cX8_showAt 10 = .ok (.aload_n 0, 1) := by decide +kernel
theorem dX8_showAt_11 : decode cX8_showAt 11 = .ok (.getfield 24, 3) := by decide +kernel
theorem dX8_showAt_14 : decode cX8_showAt 14 = .ok (.iload_n 3, 1) := by decide +kernel
theorem dX8_showAt_15 : decode cX8_showAt 15 = .ok (.aaload, 1) := by decide +kernel
theorem dX8_showAt_16 : decode cX8_showAt 16 = .ok (.getfield 163, 3) := by decide +kernel
theorem dX8_showAt_19 : decode cX8_showAt 19 = .ok (.iload_n 2, 1) := by decide +kernel
theorem dX8_showAt_20 : decode cX8_showAt 20 = .ok (.iaload, 1) := by decide +kernel
theorem dX8_showAt_21 : decode cX8_showAt 21 = .ok (.iload_n 1, 1) := by decide +kernel
theorem dX8_showAt_22 : decode cX8_showAt 22 = .ok (.if_icmp .ne 5, 3) := by decide +kernel
theorem dX8_showAt_25 : decode cX8_showAt 25 = .ok (.iload_n 3, 1) := by decide +kernel
theorem dX8_showAt_26 : decode cX8_showAt 26 = .ok (.ireturn, 1) := by decide +kernel
theorem dX8_showAt_27 : decode cX8_showAt 27 = .ok (.iinc 3 1, 3) := by decide +kernel
theorem dX8_showAt_30 : decode cX8_showAt 30 = .ok (.goto (-28), 3) := by decide +kernel
theorem dX8_showAt_33 : decode cX8_showAt 33 = .ok (.iconst (-1), 1) := by decide +kernel
theorem dX8_showAt_34 : decode cX8_showAt 34 = .ok (.ireturn, 1) := by decide +kernel
theorem dX8_nightsOnTours_0 : decode cX8_nightsOnTours 0 = .ok (.iconst 0, 1) := by decide +kernel
theorem dX8_nightsOnTours_1 : decode cX8_nightsOnTours 1 = .ok (.istore_n 1, 1) := by decide +kernel
theorem dX8_nightsOnTours_2 : decode cX8_nightsOnTours 2 = .ok (.iconst 0, 1) := by decide +kernel
theorem dX8_nightsOnTours_3 : decode cX8_nightsOnTours 3 = .ok (.istore_n 2, 1) := by decide +kernel
theorem dX8_nightsOnTours_4 : decode cX8_nightsOnTours 4 = .ok (.iload_n 2, 1) := by decide +kernel
theorem dX8_nightsOnTours_5 : decode cX8_nightsOnTours 5 = .ok (.aload_n 0, 1) := by decide +kernel
theorem dX8_nightsOnTours_6 : decode cX8_nightsOnTours 6 = .ok (.getfield 80, 3) := by decide +kernel
theorem dX8_nightsOnTours_9 : decode cX8_nightsOnTours 9 = .ok (.if_icmp .ge 41, 3) := by decide +kernel
theorem dX8_nightsOnTours_12 : decode cX8_nightsOnTours 12 = .ok (.iconst 0, 1) := by decide +kernel
theorem dX8_nightsOnTours_13 : decode cX8_nightsOnTours 13 = .ok (.istore_n 3, 1) := by decide +kernel
theorem dX8_nightsOnTours_14 : decode cX8_nightsOnTours 14 = .ok (.iload_n 3, 1) := by decide +kernel
theorem dX8_nightsOnTours_15 : decode cX8_nightsOnTours 15 = .ok (.bipush 14, 2) := by decide +kernel
theorem dX8_nightsOnTours_17 : decode cX8_nightsOnTours 17 = .ok (.if_icmp .ge 27, 3) := by decide +kernel
theorem dX8_nightsOnTours_20 : decode cX8_nightsOnTours 20 = .ok (.aload_n 0, 1) := by decide +kernel
theorem dX8_nightsOnTours_21 : decode cX8_nightsOnTours 21 = .ok (.getfield 24, 3) := by decide +kernel
theorem dX8_nightsOnTours_24 : decode cX8_nightsOnTours 24 = .ok (.iload_n 2, 1) := by decide +kernel
theorem dX8_nightsOnTours_25 : decode cX8_nightsOnTours 25 = .ok (.aaload, 1) := by decide +kernel
theorem dX8_nightsOnTours_26 : decode cX8_nightsOnTours 26 = .ok (.getfield 163, 3) := by decide +kernel
theorem dX8_nightsOnTours_29 : decode cX8_nightsOnTours 29 = .ok (.iload_n 3, 1) := by decide +kernel
theorem dX8_nightsOnTours_30 : decode cX8_nightsOnTours 30 = .ok (.iaload, 1) := by decide +kernel
theorem dX8_nightsOnTours_31 : decode cX8_nightsOnTours 31 = .ok (.iconst (-1), 1) := by decide +kernel
theorem dX8_nightsOnTours_32 : decode cX8_nightsOnTours 32 = .ok (.if_icmp .eq 6, 3) := by decide +kernel
theorem dX8_nightsOnTours_35 : decode cX8_nightsOnTours 35 = .ok (.iinc 1 1, 3) := by decide +kernel
theorem dX8_nightsOnTours_38 : decode cX8_nightsOnTours 38 = .ok (.iinc 3 1, 3) := by decide +kernel
theorem dX8_nightsOnTours_41 : decode cX8_nightsOnTours 41 = .ok (.goto (-27), 3) := by decide +kernel
theorem dX8_nightsOnTours_44 : decode cX8_nightsOnTours 44 = .ok (.iinc 2 1, 3) := by decide +kernel
theorem dX8_nightsOnTours_47 : decode cX8_nightsOnTours 47 = .ok (.goto (-43), 3) := by decide +kernel
theorem dX8_nightsOnTours_50 : decode cX8_nightsOnTours 50 = .ok (.iload_n 1, 1) := by decide +kernel
theorem dX8_nightsOnTours_51 : decode cX8_nightsOnTours 51 = .ok (.ireturn, 1) := by decide +kernel
theorem dX7_init_0 : decode cX7_init 0 = .ok (.aload_n 0, 1) := by decide +kernel
theorem dX7_init_1 : decode cX7_init 1 = .ok (.invokespecial 3, 3) := by decide +kernel
theorem dX7_init_4 : decode cX7_init 4 = .ok (.aload_n 0, 1) := by decide +kernel
theorem dX7_init_5 : decode cX7_init 5 = .ok (.new 9, 3) := by decide +kernel
theorem dX7_init_8 : decode cX7_init 8 = .ok (.dup, 1) := by decide +kernel
theorem dX7_init_9 : decode cX7_init 9 = .ok (.invokespecial 11, 3) := by decide +kernel
theorem dX7_init_12 : decode cX7_init 12 = .ok (.putfield 12, 3) := by decide +kernel
theorem dX7_init_15 : decode cX7_init 15 = .ok (.aload_n 0, 1) := by decide +kernel
theorem dX7_init_16 : decode cX7_init 16 = .ok (.new 18, 3) := by decide +kernel
theorem dX7_init_19 : decode cX7_init 19 = .ok (.dup, 1) := by decide +kernel
theorem dX7_init_20 : decode cX7_init 20 = .ok (.invokespecial 20, 3) := by decide +kernel
theorem dX7_init_23 : decode cX7_init 23 = .ok (.putfield 21, 3) := by decide +kernel
theorem dX7_init_26 : decode cX7_init 26 = .ok (.return_, 1) := by decide +kernel
theorem dX7_start_0 : decode cX7_start 0 = .ok (.aload_n 0, 1) := by decide +kernel
theorem dX7_start_1 : decode cX7_start 1 = .ok (.getfield 21, 3) := by decide +kernel
theorem dX7_start_4 : decode cX7_start 4 = .ok (.aload_n 1, 1) := by decide +kernel
theorem dX7_start_5 : decode cX7_start 5 = .ok (.invokevirtual 43, 3) := by decide +kernel
theorem dX7_start_8 : decode cX7_start 8 = .ok (.aload_n 0, 1) := by decide +kernel
theorem dX7_start_9 : decode cX7_start 9 = .ok (.getfield 12, 3) := by decide +kernel
theorem dX7_start_12 : decode cX7_start 12 = .ok (.invokevirtual 46, 3) := by decide +kernel
theorem dX7_start_15 : decode cX7_start 15 = .ok (.aload_n 0, 1) := by decide +kernel
theorem dX7_start_16 : decode cX7_start 16 = .ok (.iconst 0, 1) := by decide +kernel
theorem dX7_start_17 : decode cX7_start 17 = .ok (.putfield 40, 3) := by decide +kernel
theorem dX7_start_20 : decode cX7_start 20 = .ok (.aload_n 0, 1) := by decide +kernel
theorem dX7_start_21 : decode cX7_start 21 = .ok (.iconst 0, 1) := by decide +kernel
theorem dX7_start_22 : decode cX7_start 22 = .ok (.putfield 49, 3) := by decide +kernel
theorem dX7_start_25 : decode cX7_start 25 = .ok (.aload_n 0, 1) := by decide +kernel
theorem dX7_start_26 : decode cX7_start 26 = .ok (.iconst 0, 1) := by decide +kernel
theorem dX7_start_27 : decode cX7_start 27 = .ok (.putfield 52, 3) := by decide +kernel
theorem dX7_start_30 : decode cX7_start 30 = .ok (.aload_n 0, 1) := by decide +kernel
theorem dX7_start_31 : decode cX7_start 31 = .ok (.iconst 0, 1) := by decide +kernel
theorem dX7_start_32 : decode cX7_start 32 = .ok (.putfield 55, 3) := by decide +kernel
theorem dX7_start_35 : decode cX7_start 35 = .ok (.aload_n 0, 1) := by decide +kernel
theorem dX7_start_36 : decode cX7_start 36 = .ok (.iconst 0, 1) := by decide +kernel
theorem dX7_start_37 : decode cX7_start 37 = .ok (.putfield 59, 3) := by decide +kernel
theorem dX7_start_40 : decode cX7_start 40 = .ok (.aload_n 0, 1) := by decide +kernel
theorem dX7_start_41 : decode cX7_start 41 = .ok (.iconst 0, 1) := by decide +kernel
theorem dX7_start_42 : decode cX7_start 42 = .ok (.putfield 62, 3) := by decide +kernel
theorem dX7_start_45 : decode cX7_start 45 = .ok (.aload_n 0, 1) := by decide +kernel
theorem dX7_start_46 : decode cX7_start 46 = .ok (.iconst 0, 1) := by decide +kernel
theorem dX7_start_47 : decode cX7_start 47 = .ok (.putfield 65, 3) := by decide +kernel
theorem dX7_start_50 : decode cX7_start 50 = .ok (.return_, 1) := by decide +kernel
theorem dX7_refuseToken_0 : decode cX7_refuseToken 0 = .ok (.aload_n 0, 1) := by decide +kernel
theorem dX7_refuseToken_1 : decode cX7_refuseToken 1 = .ok (.aload_n 0, 1) := by decide +kernel
theorem dX7_refuseToken_2 : decode cX7_refuseToken 2 = .ok (.getfield 32, 3) := by decide +kernel
theorem dX7_refuseToken_5 : decode cX7_refuseToken 5 = .ok (.ifCond .ne 7, 3) := by decide +kernel
theorem dX7_refuseToken_8 : decode cX7_refuseToken 8 = .ok (.iconst 1, 1) := by decide +kernel
theorem dX7_refuseToken_9 : decode cX7_refuseToken 9 = .ok (.goto 4, 3) := by decide +kernel
theorem dX7_refuseToken_12 : decode cX7_refuseToken 12 = .ok (.iconst 2, 1) := by decide +kernel
theorem dX7_refuseToken_13 : decode cX7_refuseToken 13 = .ok (.invokevirtual 95, 3) := by decide +kernel
theorem dX7_refuseToken_16 : decode cX7_refuseToken 16 = .ok (.ireturn, 1) := by decide +kernel
theorem dX7_readRun_0 : decode cX7_readRun 0 = .ok (.iconst 0, 1) := by decide +kernel
theorem dX7_readRun_1 : decode cX7_readRun 1 = .ok (.istore_n 1, 1) := by decide +kernel
theorem dX7_readRun_2 : decode cX7_readRun 2 = .ok (.iconst 0, 1) := by decide +kernel
theorem dX7_readRun_3 : decode cX7_readRun 3 = .ok (.istore_n 2, 1) := by decide +kernel
theorem dX7_readRun_4 : decode cX7_readRun 4 = .ok (.aload_n 0, 1) := by decide +kernel
theorem dX7_readRun_5 : decode cX7_readRun 5 = .ok (.getfield 65, 3) := by decide +kernel
theorem dX7_readRun_8 : decode cX7_readRun 8 = .ok (.aload_n 0, 1) := by decide +kernel
theorem dX7_readRun_9 : decode cX7_readRun 9 = .ok (.getfield 21, 3) := by decide +kernel
theorem dX7_readRun_12 : decode cX7_readRun 12 = .ok (.getfield 145, 3) := by decide +kernel
theorem dX7_readRun_15 : decode cX7_readRun 15 = .ok (.if_icmp .ge 85, 3) := by decide +kernel
theorem dX7_readRun_18 : decode cX7_readRun 18 = .ok (.aload_n 0, 1) := by decide +kernel
theorem dX7_readRun_19 : decode cX7_readRun 19 = .ok (.getfield 21, 3) := by decide +kernel
theorem dX7_readRun_22 : decode cX7_readRun 22 = .ok (.aload_n 0, 1) := by decide +kernel
theorem dX7_readRun_23 : decode cX7_readRun 23 = .ok (.getfield 65, 3) := by decide +kernel
theorem dX7_readRun_26 : decode cX7_readRun 26 = .ok (.invokevirtual 148, 3) := by decide +kernel
theorem dX7_readRun_29 : decode cX7_readRun 29 = .ok (.invokestatic 155, 3) := by decide +kernel
theorem dX7_readRun_32 : decode cX7_readRun 32 = .ok (.ifCond .ne 20, 3) := by decide +kernel
theorem dX7_readRun_35 : decode cX7_readRun 35 = .ok (.aload_n 0, 1) := by decide +kernel
theorem dX7_readRun_36 : decode cX7_readRun 36 = .ok (.getfield 21, 3) := by decide +kernel
theorem dX7_readRun_39 : decode cX7_readRun 39 = .ok (.aload_n 0, 1) := by decide +kernel
theorem dX7_readRun_40 : decode cX7_readRun 40 = .ok (.getfield 65, 3) := by decide +kernel
theorem dX7_readRun_43 : decode cX7_readRun 43 = .ok (.invokevirtual 148, 3) := by decide +kernel
theorem dX7_readRun_46 : decode cX7_readRun 46 = .ok (.invokestatic 158, 3) := by decide +kernel
theorem dX7_readRun_49 : decode cX7_readRun 49 = .ok (.ifCond .eq 51, 3) := by decide +kernel
theorem dX7_readRun_52 : decode cX7_readRun 52 = .ok (.aload_n 0, 1) := by decide +kernel
theorem dX7_readRun_53 : decode cX7_readRun 53 = .ok (.getfield 21, 3) := by decide +kernel
theorem dX7_readRun_56 : decode cX7_readRun 56 = .ok (.aload_n 0, 1) := by decide +kernel
theorem dX7_readRun_57 : decode cX7_readRun 57 = .ok (.getfield 65, 3) := by decide +kernel
theorem dX7_readRun_60 : decode cX7_readRun 60 = .ok (.invokevirtual 148, 3) := by decide +kernel
theorem dX7_readRun_63 : decode cX7_readRun 63 = .ok (.istore_n 3, 1) := by decide +kernel
theorem dX7_readRun_64 : decode cX7_readRun 64 = .ok (.iload_n 3, 1) := by decide +kernel
theorem dX7_readRun_65 : decode cX7_readRun 65 = .ok (.invokestatic 155, 3) := by decide +kernel
theorem dX7_readRun_68 : decode cX7_readRun 68 = .ok (.ifCond .eq 9, 3) := by decide +kernel
theorem dX7_readRun_71 : decode cX7_readRun 71 = .ok (.iinc 1 1, 3) := by decide +kernel
theorem dX7_readRun_74 : decode cX7_readRun 74 = .ok (.goto 13, 3) := by decide +kernel
theorem dX7_readRun_77 : decode cX7_readRun 77 = .ok (.iload_n 2, 1) := by decide +kernel
theorem dX7_readRun_78 : decode cX7_readRun 78 = .ok (.bipush 10, 2) := by decide +kernel
theorem dX7_readRun_80 : decode cX7_readRun 80 = .ok (.imul, 1) := by decide +kernel
theorem dX7_readRun_81 : decode cX7_readRun 81 = .ok (.iload_n 3, 1) := by decide +kernel
theorem dX7_readRun_82 : decode cX7_readRun 82 = .ok (.iadd, 1) := by decide +kernel
theorem dX7_readRun_83 : decode cX7_readRun 83 = .ok (.bipush 48, 2) := by decide +kernel
theorem dX7_readRun_85 : decode cX7_readRun 85 = .ok (.isub, 1) := by decide +kernel
theorem dX7_readRun_86 : decode cX7_readRun 86 = .ok (.istore_n 2, 1) := by decide +kernel
theorem dX7_readRun_87 : decode cX7_readRun 87 = .ok (.aload_n 0, 1) := by decide +kernel
theorem dX7_readRun_88 : decode cX7_readRun 88 = .ok (.dup, 1) := by decide +kernel
theorem dX7_readRun_89 : decode cX7_readRun 89 = .ok (.getfield 65, 3) := by decide +kernel
theorem dX7_readRun_92 : decode cX7_readRun 92 = .ok (.iconst 1, 1) := by decide +kernel
theorem dX7_readRun_93 : decode cX7_readRun 93 = .ok (.iadd, 1) := by decide +kernel
theorem dX7_readRun_94 : decode cX7_readRun 94 = .ok (.putfield 65, 3) := by decide +kernel
theorem dX7_readRun_97 : decode cX7_readRun 97 = .ok (.goto (-93), 3) := by decide +kernel
theorem dX7_readRun_100 : decode cX7_readRun 100 = .ok (.aload_n 0, 1) := by decide +kernel
theorem dX7_readRun_101 : decode cX7_readRun 101 = .ok (.getfield 65, 3) := by decide +kernel
theorem dX7_readRun_104 : decode cX7_readRun 104 = .ok (.aload_n 0, 1) := by decide +kernel
theorem dX7_readRun_105 : decode cX7_readRun 105 = .ok (.getfield 142, 3) := by decide +kernel
theorem dX7_readRun_108 : decode cX7_readRun 108 = .ok (.isub, 1) := by decide +kernel
theorem dX7_readRun_109 : decode cX7_readRun 109 = .ok (.istore_n 3, 1) := by decide +kernel
theorem dX7_readRun_110 : decode cX7_readRun 110 = .ok (.iload_n 1, 1) := by decide +kernel
theorem dX7_readRun_111 : decode cX7_readRun 111 = .ok (.iload_n 3, 1) := by decide +kernel
theorem dX7_readRun_112 : decode cX7_readRun 112 = .ok (.if_icmp .ne 11, 3) := by decide +kernel
theorem dX7_readRun_115 : decode cX7_readRun 115 = .ok (.aload_n 0, 1) := by decide +kernel
theorem dX7_readRun_116 : decode cX7_readRun 116 = .ok (.iconst 1, 1) := by decide +kernel
theorem dX7_readRun_117 : decode cX7_readRun 117 = .ok (.putfield 32, 3) := by decide +kernel
theorem dX7_readRun_120 : decode cX7_readRun 120 = .ok (.goto 30, 3) := by decide +kernel
theorem dX7_readRun_123 : decode cX7_readRun 123 = .ok (.iload_n 1, 1) := by decide +kernel
theorem dX7_readRun_124 : decode cX7_readRun 124 = .ok (.ifCond .ne 21, 3) := by decide +kernel
theorem dX7_readRun_127 : decode cX7_readRun 127 = .ok (.iload_n 3, 1) := by decide +kernel
theorem dX7_readRun_128 : decode cX7_readRun 128 = .ok (.iconst 5, 1) := by decide +kernel
theorem dX7_readRun_129 : decode cX7_readRun 129 = .ok (.if_icmp .gt 16, 3) := by decide +kernel
theorem dX7_readRun_132 : decode cX7_readRun 132 = .ok (.aload_n 0, 1) := by decide +kernel
theorem dX7_readRun_133 : decode cX7_readRun 133 = .ok (.iconst 2, 1) := by decide +kernel
theorem dX7_readRun_134 : decode cX7_readRun 134 = .ok (.putfield 32, 3) := by decide +kernel
theorem dX7_readRun_137 : decode cX7_readRun 137 = .ok (.aload_n 0, 1) := by decide +kernel
theorem dX7_readRun_138 : decode cX7_readRun 138 = .ok (.iload_n 2, 1) := by decide +kernel
theorem dX7_readRun_139 : decode cX7_readRun 139 = .ok (.putfield 104, 3) := by decide +kernel
theorem dX7_readRun_142 : decode cX7_readRun 142 = .ok (.goto 8, 3) := by decide +kernel
theorem dX7_readRun_145 : decode cX7_readRun 145 = .ok (.aload_n 0, 1) := by decide +kernel
theorem dX7_readRun_146 : decode cX7_readRun 146 = .ok (.iconst 0, 1) := by decide +kernel
theorem dX7_readRun_147 : decode cX7_readRun 147 = .ok (.putfield 32, 3) := by decide +kernel
theorem dX7_readRun_150 : decode cX7_readRun 150 = .ok (.return_, 1) := by decide +kernel
theorem dX8_feed_0 : decode cX8_feed 0 = .ok (.aload_n 0, 1) := by decide +kernel
theorem dX8_feed_1 : decode cX8_feed 1 = .ok (.getfield 10, 3) := by decide +kernel
theorem dX8_feed_4 : decode cX8_feed 4 = .ok (.getfield 51, 3) := by decide +kernel
theorem dX8_feed_7 : decode cX8_feed 7 = .ok (.bipush 20, 2) := by decide +kernel
theorem dX8_feed_9 : decode cX8_feed 9 = .ok (.iadd, 1) := by decide +kernel
theorem dX8_feed_10 : decode cX8_feed 10 = .ok (.sipush 200, 3) := by decide +kernel
theorem dX8_feed_13 : decode cX8_feed 13 = .ok (.if_icmp .le 5, 3) := by decide +kernel
theorem dX8_feed_16 : decode cX8_feed 16 = .ok (.iconst (-1), 1) := by decide +kernel
theorem dX8_feed_17 : decode cX8_feed 17 = .ok (.ireturn, 1) := by decide +kernel
theorem dX8_feed_18 : decode cX8_feed 18 = .ok (.aload_n 0, 1) := by decide +kernel
theorem dX8_feed_19 : decode cX8_feed 19 = .ok (.getfield 10, 3) := by decide +kernel
theorem dX8_feed_22 : decode cX8_feed 22 = .ok (.iload_n 1, 1) := by decide +kernel
theorem dX8_feed_23 : decode cX8_feed 23 = .ok (.invokevirtual 55, 3) := by decide +kernel
theorem dX8_feed_26 : decode cX8_feed 26 = .ok (.aload_n 0, 1) := by decide +kernel
theorem dX8_feed_27 : decode cX8_feed 27 = .ok (.getfield 10, 3) := by decide +kernel
theorem dX8_feed_30 : decode cX8_feed 30 = .ok (.iload_n 2, 1) := by decide +kernel
theorem dX8_feed_31 : decode cX8_feed 31 = .ok (.invokevirtual 55, 3) := by decide +kernel
theorem dX8_feed_34 : decode cX8_feed 34 = .ok (.aload_n 0, 1) := by decide +kernel
theorem dX8_feed_35 : decode cX8_feed 35 = .ok (.getfield 10, 3) := by decide +kernel
theorem dX8_feed_38 : decode cX8_feed 38 = .ok (.iload_n 3, 1) := by decide +kernel
theorem dX8_feed_39 : decode cX8_feed 39 = .ok (.invokevirtual 55, 3) := by decide +kernel
theorem dX8_feed_42 : decode cX8_feed 42 = .ok (.aload_n 0, 1) := by decide +kernel
theorem dX8_feed_43 : decode cX8_feed 43 = .ok (.getfield 10, 3) := by decide +kernel
theorem dX8_feed_46 : decode cX8_feed 46 = .ok (.iload 4, 2) := by decide +kernel
theorem dX8_feed_48 : decode cX8_feed 48 = .ok (.invokevirtual 55, 3) := by decide +kernel
theorem dX8_feed_51 : decode cX8_feed 51 = .ok (.aload_n 0, 1) := by decide +kernel
theorem dX8_feed_52 : decode cX8_feed 52 = .ok (.getfield 10, 3) := by decide +kernel
theorem dX8_feed_55 : decode cX8_feed 55 = .ok (.iload 5, 2) := by decide +kernel
theorem dX8_feed_57 : decode cX8_feed 57 = .ok (.invokevirtual 55, 3) := by decide +kernel
theorem dX8_feed_60 : decode cX8_feed 60 = .ok (.aload_n 0, 1) := by decide +kernel
theorem dX8_feed_61 : decode cX8_feed 61 = .ok (.getfield 10, 3) := by decide +kernel
theorem dX8_feed_64 : decode cX8_feed 64 = .ok (.getfield 51, 3) := by decide +kernel
theorem dX8_feed_67 : decode cX8_feed 67 = .ok (.ireturn, 1) := by decide +kernel
theorem dX8_give_0 : decode cX8_give 0 = .ok (.aload_n 0, 1) := by decide +kernel
theorem dX8_give_1 : decode cX8_give 1 = .ok (.iload_n 1, 1) := by decide +kernel
theorem dX8_give_2 : decode cX8_give 2 = .ok (.invokevirtual 98, 3) := by decide +kernel
theorem dX8_give_5 : decode cX8_give 5 = .ok (.ifCond .eq 21, 3) := by decide +kernel
theorem dX8_give_8 : decode cX8_give 8 = .ok (.aload_n 0, 1) := by decide +kernel
theorem dX8_give_9 : decode cX8_give 9 = .ok (.iload_n 2, 1) := by decide +kernel
theorem dX8_give_10 : decode cX8_give 10 = .ok (.invokevirtual 101, 3) := by decide +kernel
theorem dX8_give_13 : decode cX8_give 13 = .ok (.ifCond .eq 13, 3) := by decide +kernel
theorem dX8_give_16 : decode cX8_give 16 = .ok (.iload_n 3, 1) := by decide +kernel
theorem dX8_give_17 : decode cX8_give 17 = .ok (.iconst 0, 1) := by decide +kernel
theorem dX8_give_18 : decode cX8_give 18 = .ok (.bipush 10, 2) := by decide +kernel
theorem dX8_give_20 : decode cX8_give 20 = .ok (.invokestatic 62, 3) := by decide +kernel
theorem dX8_give_23 : decode cX8_give 23 = .ok (.ifCond .ne 5, 3) := by decide +kernel
theorem dX8_give_26 : decode cX8_give 26 = .ok (.iconst 0, 1) := by decide +kernel
theorem dX8_give_27 : decode cX8_give 27 = .ok (.ireturn, 1) := by decide +kernel
theorem dX8_give_28 : decode cX8_give 28 = .ok (.iload_n 3, 1) := by decide +kernel
theorem dX8_give_29 : decode cX8_give 29 = .ok (.aload_n 0, 1) := by decide +kernel
theorem dX8_give_30 : decode cX8_give 30 = .ok (.getfield 18, 3) := by decide +kernel
theorem dX8_give_33 : decode cX8_give 33 = .ok (.iload_n 1, 1) := by decide +kernel
theorem dX8_give_34 : decode cX8_give 34 = .ok (.aaload, 1) := by decide +kernel
theorem dX8_give_35 : decode cX8_give 35 = .ok (.iload_n 2, 1) := by decide +kernel
theorem dX8_give_36 : decode cX8_give 36 = .ok (.invokevirtual 104, 3) := by decide +kernel
theorem dX8_give_39 : decode cX8_give 39 = .ok (.iadd, 1) := by decide +kernel
theorem dX8_give_40 : decode cX8_give 40 = .ok (.bipush 10, 2) := by decide +kernel
theorem dX8_give_42 : decode cX8_give 42 = .ok (.if_icmp .le 5, 3) := by decide +kernel
theorem dX8_give_45 : decode cX8_give 45 = .ok (.iconst 0, 1) := by decide +kernel
theorem dX8_give_46 : decode cX8_give 46 = .ok (.ireturn, 1) := by decide +kernel
theorem dX8_give_47 : decode cX8_give 47 = .ok (.aload_n 0, 1) := by decide +kernel
theorem dX8_give_48 : decode cX8_give 48 = .ok (.getfield 18, 3) := by decide +kernel
theorem dX8_give_51 : decode cX8_give 51 = .ok (.iload_n 1, 1) := by decide +kernel
theorem dX8_give_52 : decode cX8_give 52 = .ok (.aaload, 1) := by decide +kernel
theorem dX8_give_53 : decode cX8_give 53 = .ok (.getfield 108, 3) := by decide +kernel
theorem dX8_give_56 : decode cX8_give 56 = .ok (.iload_n 2, 1) := by decide +kernel
theorem dX8_give_57 : decode cX8_give 57 = .ok (.iload_n 3, 1) := by decide +kernel
theorem dX8_give_58 : decode cX8_give 58 = .ok (.iastore, 1) := by decide +kernel
theorem dX8_give_59 : decode cX8_give 59 = .ok (.iconst 1, 1) := by decide +kernel
theorem dX8_give_60 : decode cX8_give 60 = .ok (.ireturn, 1) := by decide +kernel
theorem dX8_count_0 : decode cX8_count 0 = .ok (.iload_n 1, 1) := by decide +kernel
theorem dX8_count_1 : decode cX8_count 1 = .ok (.tableswitch 54 0 3 #[31, 36, 41, 46], 31) := by decide +kernel
theorem dX8_count_32 : decode cX8_count 32 = .ok (.aload_n 0, 1) := by decide +kernel
theorem dX8_count_33 : decode cX8_count 33 = .ok (.getfield 59, 3) := by decide +kernel
theorem dX8_count_36 : decode cX8_count 36 = .ok (.ireturn, 1) := by decide +kernel
theorem dX8_count_37 : decode cX8_count 37 = .ok (.aload_n 0, 1) := by decide +kernel
theorem dX8_count_38 : decode cX8_count 38 = .ok (.getfield 80, 3) := by decide +kernel
theorem dX8_count_41 : decode cX8_count 41 = .ok (.ireturn, 1) := by decide +kernel
theorem dX8_count_42 : decode cX8_count 42 = .ok (.aload_n 0, 1) := by decide +kernel
theorem dX8_count_43 : decode cX8_count 43 = .ok (.invokevirtual 221, 3) := by decide +kernel
theorem dX8_count_46 : decode cX8_count 46 = .ok (.ireturn, 1) := by decide +kernel
theorem dX8_count_47 : decode cX8_count 47 = .ok (.aload_n 0, 1) := by decide +kernel
theorem dX8_count_48 : decode cX8_count 48 = .ok (.getfield 10, 3) := by decide +kernel
theorem dX8_count_51 : decode cX8_count 51 = .ok (.getfield 51, 3) := by decide +kernel
theorem dX8_count_54 : decode cX8_count 54 = .ok (.ireturn, 1) := by decide +kernel
theorem dX8_count_55 : decode cX8_count 55 = .ok (.iconst (-1), 1) := by decide +kernel
theorem dX8_count_56 : decode cX8_count 56 = .ok (.ireturn, 1) := by decide +kernel
theorem dX8_isSize_0 : decode cX8_isSize 0 = .ok (.iload_n 0, 1) := by decide +kernel
theorem dX8_isSize_1 : decode cX8_isSize 1 = .ok (.iconst 0, 1) := by decide +kernel
theorem dX8_isSize_2 : decode cX8_isSize 2 = .ok (.bipush 99, 2) := by decide +kernel
theorem dX8_isSize_4 : decode cX8_isSize 4 = .ok (.invokestatic 62, 3) := by decide +kernel
theorem dX8_isSize_7 : decode cX8_isSize 7 = .ok (.ireturn, 1) := by decide +kernel
theorem dX8_isNight_0 : decode cX8_isNight 0 = .ok (.iload_n 0, 1) := by decide +kernel
theorem dX8_isNight_1 : decode cX8_isNight 1 = .ok (.iconst 0, 1) := by decide +kernel
theorem dX8_isNight_2 : decode cX8_isNight 2 = .ok (.bipush 13, 2) := by decide +kernel
theorem dX8_isNight_4 : decode cX8_isNight 4 = .ok (.invokestatic 62, 3) := by decide +kernel
theorem dX8_isNight_7 : decode cX8_isNight 7 = .ok (.ireturn, 1) := by decide +kernel
theorem dX8_closeTakenNights_0 : decode cX8_closeTakenNights 0 = .ok (.iconst 0, 1) := by decide +kernel
theorem dX8_closeTakenNights_1 : decode cX8_closeTakenNights 1 = .ok (.istore_n 2, 1) := by decide +kernel
theorem dX8_closeTakenNights_2 : decode cX8_closeTakenNights 2 = .ok (.iload_n 2, 1) := by decide +kernel
theorem dX8_closeTakenNights_3 : decode cX8_closeTakenNights 3 = .ok (.bipush 14, 2) := by decide +kernel
theorem dX8_closeTakenNights_5 : decode cX8_closeTakenNights 5 = .ok (.if_icmp .ge 27, 3) := by decide +kernel
theorem dX8_closeTakenNights_8 : decode cX8_closeTakenNights 8 = .ok (.aload_n 0, 1) := by decide +kernel
theorem dX8_closeTakenNights_9 : decode cX8_closeTakenNights 9 = .ok (.iload_n 1, 1) := by decide +kernel
theorem dX8_closeTakenNights_10 : decode cX8_closeTakenNights 10 = .ok (.iload_n 2, 1) := by decide +kernel
theorem dX8_closeTakenNights_11 : decode cX8_closeTakenNights 11 = .ok (.invokevirtual 166, 3) := by decide +kernel
theorem dX8_closeTakenNights_14 : decode cX8_closeTakenNights 14 = .ok (.iconst (-1), 1) := by decide +kernel
theorem dX8_closeTakenNights_15 : decode cX8_closeTakenNights 15 = .ok (.if_icmp .eq 11, 3) := by decide +kernel
theorem dX8_closeTakenNights_18 : decode cX8_closeTakenNights 18 = .ok (.aload_n 0, 1) := by decide +kernel
theorem dX8_closeTakenNights_19 : decode cX8_closeTakenNights 19 = .ok (.getfield 38, 3) := by decide +kernel
theorem dX8_closeTakenNights_22 : decode cX8_closeTakenNights 22 = .ok (.iload_n 2, 1) := by decide +kernel
theorem dX8_closeTakenNights_23 : decode cX8_closeTakenNights 23 = .ok (.invokevirtual 233, 3) := by decide +kernel
theorem dX8_closeTakenNights_26 : decode cX8_closeTakenNights 26 = .ok (.iinc 2 1, 3) := by decide +kernel
theorem dX8_closeTakenNights_29 : decode cX8_closeTakenNights 29 = .ok (.goto (-27), 3) := by decide +kernel
theorem dX8_closeTakenNights_32 : decode cX8_closeTakenNights 32 = .ok (.return_, 1) := by decide +kernel
theorem dX8_worthOfTour_0 : decode cX8_worthOfTour 0 = .ok (.iconst 0, 1) := by decide +kernel
theorem dX8_worthOfTour_1 : decode cX8_worthOfTour 1 = .ok (.istore_n 2, 1) := by decide +kernel
theorem dX8_worthOfTour_2 : decode cX8_worthOfTour 2 = .ok (.iconst 0, 1) := by decide +kernel
theorem dX8_worthOfTour_3 : decode cX8_worthOfTour 3 = .ok (.istore_n 3, 1) := by decide +kernel
theorem dX8_worthOfTour_4 : decode cX8_worthOfTour 4 = .ok (.iload_n 3, 1) := by decide +kernel
theorem dX8_worthOfTour_5 : decode cX8_worthOfTour 5 = .ok (.bipush 14, 2) := by decide +kernel
theorem dX8_worthOfTour_7 : decode cX8_worthOfTour 7 = .ok (.if_icmp .ge 46, 3) := by decide +kernel
theorem dX8_worthOfTour_10 : decode cX8_worthOfTour 10 = .ok (.aload_n 0, 1) := by decide +kernel
theorem dX8_worthOfTour_11 : decode cX8_worthOfTour 11 = .ok (.getfield 24, 3) := by decide +kernel
theorem dX8_worthOfTour_14 : decode cX8_worthOfTour 14 = .ok (.iload_n 1, 1) := by decide +kernel
theorem dX8_worthOfTour_15 : decode cX8_worthOfTour 15 = .ok (.aaload, 1) := by decide +kernel
theorem dX8_worthOfTour_16 : decode cX8_worthOfTour 16 = .ok (.getfield 163, 3) := by decide +kernel
theorem dX8_worthOfTour_19 : decode cX8_worthOfTour 19 = .ok (.iload_n 3, 1) := by decide +kernel
theorem dX8_worthOfTour_20 : decode cX8_worthOfTour 20 = .ok (.iaload, 1) := by decide +kernel
theorem dX8_worthOfTour_21 : decode cX8_worthOfTour 21 = .ok (.istore 4, 2) := by decide +kernel
theorem dX8_worthOfTour_23 : decode cX8_worthOfTour 23 = .ok (.aload_n 0, 1) := by decide +kernel
theorem dX8_worthOfTour_24 : decode cX8_worthOfTour 24 = .ok (.iload 4, 2) := by decide +kernel
theorem dX8_worthOfTour_26 : decode cX8_worthOfTour 26 = .ok (.invokevirtual 98, 3) := by decide +kernel
theorem dX8_worthOfTour_29 : decode cX8_worthOfTour 29 = .ok (.ifCond .eq 18, 3) := by decide +kernel
theorem dX8_worthOfTour_32 : decode cX8_worthOfTour 32 = .ok (.iload_n 2, 1) := by decide +kernel
theorem dX8_worthOfTour_33 : decode cX8_worthOfTour 33 = .ok (.aload_n 0, 1) := by decide +kernel
theorem dX8_worthOfTour_34 : decode cX8_worthOfTour 34 = .ok (.getfield 18, 3) := by decide +kernel
theorem dX8_worthOfTour_37 : decode cX8_worthOfTour 37 = .ok (.iload 4, 2) := by decide +kernel
theorem dX8_worthOfTour_39 : decode cX8_worthOfTour 39 = .ok (.aaload, 1) := by decide +kernel
theorem dX8_worthOfTour_40 : decode cX8_worthOfTour 40 = .ok (.getfield 108, 3) := by decide +kernel
theorem dX8_worthOfTour_43 : decode cX8_worthOfTour 43 = .ok (.iload_n 1, 1) := by decide +kernel
theorem dX8_worthOfTour_44 : decode cX8_worthOfTour 44 = .ok (.iaload, 1) := by decide +kernel
theorem dX8_worthOfTour_45 : decode cX8_worthOfTour 45 = .ok (.iadd, 1) := by decide +kernel
theorem dX8_worthOfTour_46 : decode cX8_worthOfTour 46 = .ok (.istore_n 2, 1) := by decide +kernel
theorem dX8_worthOfTour_47 : decode cX8_worthOfTour 47 = .ok (.iinc 3 1, 3) := by decide +kernel
theorem dX8_worthOfTour_50 : decode cX8_worthOfTour 50 = .ok (.goto (-46), 3) := by decide +kernel
theorem dX8_worthOfTour_53 : decode cX8_worthOfTour 53 = .ok (.iload_n 2, 1) := by decide +kernel
theorem dX8_worthOfTour_54 : decode cX8_worthOfTour 54 = .ok (.ireturn, 1) := by decide +kernel
theorem dX8_keepsWaysAndRests_0 : decode cX8_keepsWaysAndRests 0 = .ok (.iconst (-1), 1) := by decide +kernel
theorem dX8_keepsWaysAndRests_1 : decode cX8_keepsWaysAndRests 1 = .ok (.istore_n 2, 1) := by decide +kernel
theorem dX8_keepsWaysAndRests_2 : decode cX8_keepsWaysAndRests 2 = .ok (.iconst (-1), 1) := by decide +kernel
theorem dX8_keepsWaysAndRests_3 : decode cX8_keepsWaysAndRests 3 = .ok (.istore_n 3, 1) := by decide +kernel
theorem dX8_keepsWaysAndRests_4 : decode cX8_keepsWaysAndRests 4 = .ok (.iconst 0, 1) := by decide +kernel
theorem dX8_keepsWaysAndRests_5 : decode cX8_keepsWaysAndRests 5 = .ok (.istore 4, 2) := by decide +kernel
theorem dX8_keepsWaysAndRests_7 : decode cX8_keepsWaysAndRests 7 = .ok (.iconst 0, 1) := by decide +kernel
theorem dX8_keepsWaysAndRests_8 : decode cX8_keepsWaysAndRests 8 = .ok (.istore 5, 2) := by decide +kernel
theorem dX8_keepsWaysAndRests_10 : decode cX8_keepsWaysAndRests 10 = .ok (.iload 5, 2) := by decide +kernel
theorem dX8_keepsWaysAndRests_12 : decode cX8_keepsWaysAndRests 12 = .ok (.bipush 14, 2) := by decide +kernel
theorem dX8_keepsWaysAndRests_14 : decode cX8_keepsWaysAndRests 14 = .ok (.if_icmp .ge 101, 3) := by decide +kernel
theorem dX8_keepsWaysAndRests_17 : decode cX8_keepsWaysAndRests 17 = .ok (.aload_n 1, 1) := by decide +kernel
theorem dX8_keepsWaysAndRests_18 : decode cX8_keepsWaysAndRests 18 = .ok (.getfield 163, 3) := by decide +kernel
theorem dX8_keepsWaysAndRests_21 : decode cX8_keepsWaysAndRests 21 = .ok (.iload 5, 2) := by decide +kernel
theorem dX8_keepsWaysAndRests_23 : decode cX8_keepsWaysAndRests 23 = .ok (.iaload, 1) := by decide +kernel
theorem dX8_keepsWaysAndRests_24 : decode cX8_keepsWaysAndRests 24 = .ok (.istore 6, 2) := by decide +kernel
theorem dX8_keepsWaysAndRests_26 : decode cX8_keepsWaysAndRests 26 = .ok (.aload_n 0, 1) := by decide +kernel
theorem dX8_keepsWaysAndRests_27 : decode cX8_keepsWaysAndRests 27 = .ok (.iload 6, 2) := by decide +kernel
theorem dX8_keepsWaysAndRests_29 : decode cX8_keepsWaysAndRests 29 = .ok (.invokevirtual 98, 3) := by decide +kernel
theorem dX8_keepsWaysAndRests_32 : decode cX8_keepsWaysAndRests 32 = .ok (.ifCond .ne 9, 3) := by decide +kernel
theorem dX8_keepsWaysAndRests_35 : decode cX8_keepsWaysAndRests 35 = .ok (.iconst 0, 1) := by decide +kernel
theorem dX8_keepsWaysAndRests_36 : decode cX8_keepsWaysAndRests 36 = .ok (.istore 4, 2) := by decide +kernel
theorem dX8_keepsWaysAndRests_38 : decode cX8_keepsWaysAndRests 38 = .ok (.goto 71, 3) := by decide +kernel
theorem dX8_keepsWaysAndRests_41 : decode cX8_keepsWaysAndRests 41 = .ok (.iinc 4 1, 3) := by decide +kernel
theorem dX8_keepsWaysAndRests_44 : decode cX8_keepsWaysAndRests 44 = .ok (.aload_n 0, 1) := by decide +kernel
theorem dX8_keepsWaysAndRests_45 : decode cX8_keepsWaysAndRests 45 = .ok (.iload_n 2, 1) := by decide +kernel
theorem dX8_keepsWaysAndRests_46 : decode cX8_keepsWaysAndRests 46 = .ok (.invokevirtual 98, 3) := by decide +kernel
theorem dX8_keepsWaysAndRests_49 : decode cX8_keepsWaysAndRests 49 = .ok (.ifCond .eq 31, 3) := by decide +kernel
theorem dX8_keepsWaysAndRests_52 : decode cX8_keepsWaysAndRests 52 = .ok (.aload_n 0, 1) := by decide +kernel
theorem dX8_keepsWaysAndRests_53 : decode cX8_keepsWaysAndRests 53 = .ok (.getfield 18, 3) := by decide +kernel
theorem dX8_keepsWaysAndRests_56 : decode cX8_keepsWaysAndRests 56 = .ok (.iload_n 2, 1) := by decide +kernel
theorem dX8_keepsWaysAndRests_57 : decode cX8_keepsWaysAndRests 57 = .ok (.aaload, 1) := by decide +kernel
theorem dX8_keepsWaysAndRests_58 : decode cX8_keepsWaysAndRests 58 = .ok (.aload_n 0, 1) := by decide +kernel
theorem dX8_keepsWaysAndRests_59 : decode cX8_keepsWaysAndRests 59 = .ok (.getfield 18, 3) := by decide +kernel
theorem dX8_keepsWaysAndRests_62 : decode cX8_keepsWaysAndRests 62 = .ok (.iload 6, 2) := by decide +kernel
theorem dX8_keepsWaysAndRests_64 : decode cX8_keepsWaysAndRests 64 = .ok (.aaload, 1) := by decide +kernel
theorem dX8_keepsWaysAndRests_65 : decode cX8_keepsWaysAndRests 65 = .ok (.invokevirtual 240, 3) := by decide +kernel
theorem dX8_keepsWaysAndRests_68 : decode cX8_keepsWaysAndRests 68 = .ok (.aload_n 1, 1) := by decide +kernel
theorem dX8_keepsWaysAndRests_69 : decode cX8_keepsWaysAndRests 69 = .ok (.getfield 244, 3) := by decide +kernel
theorem dX8_keepsWaysAndRests_72 : decode cX8_keepsWaysAndRests 72 = .ok (.iload 5, 2) := by decide +kernel
theorem dX8_keepsWaysAndRests_74 : decode cX8_keepsWaysAndRests 74 = .ok (.iload_n 3, 1) := by decide +kernel
theorem dX8_keepsWaysAndRests_75 : decode cX8_keepsWaysAndRests 75 = .ok (.isub, 1) := by decide +kernel
theorem dX8_keepsWaysAndRests_76 : decode cX8_keepsWaysAndRests 76 = .ok (.imul, 1) := by decide +kernel
theorem dX8_keepsWaysAndRests_77 : decode cX8_keepsWaysAndRests 77 = .ok (.if_icmp .gt 7, 3) := by decide +kernel
theorem dX8_keepsWaysAndRests_80 : decode cX8_keepsWaysAndRests 80 = .ok (.iconst 1, 1) := by decide +kernel
theorem dX8_keepsWaysAndRests_81 : decode cX8_keepsWaysAndRests 81 = .ok (.goto 4, 3) := by decide +kernel
theorem dX8_keepsWaysAndRests_84 : decode cX8_keepsWaysAndRests 84 = .ok (.iconst 0, 1) := by decide +kernel
theorem dX8_keepsWaysAndRests_85 : decode cX8_keepsWaysAndRests 85 = .ok (.istore 7, 2) := by decide +kernel
theorem dX8_keepsWaysAndRests_87 : decode cX8_keepsWaysAndRests 87 = .ok (.iload 4, 2) := by decide +kernel
theorem dX8_keepsWaysAndRests_89 : decode cX8_keepsWaysAndRests 89 = .ok (.aload_n 1, 1) := by decide +kernel
theorem dX8_keepsWaysAndRests_90 : decode cX8_keepsWaysAndRests 90 = .ok (.getfield 247, 3) := by decide +kernel
theorem dX8_keepsWaysAndRests_93 : decode cX8_keepsWaysAndRests 93 = .ok (.if_icmp .gt 8, 3) := by decide +kernel
theorem dX8_keepsWaysAndRests_96 : decode cX8_keepsWaysAndRests 96 = .ok (.iload 7, 2) := by decide +kernel
theorem dX8_keepsWaysAndRests_98 : decode cX8_keepsWaysAndRests 98 = .ok (.ifCond .ne 5, 3) := by decide +kernel
theorem dX8_keepsWaysAndRests_101 : decode cX8_keepsWaysAndRests 101 = .ok (.iconst 0, 1) := by decide +kernel
theorem dX8_keepsWaysAndRests_102 : decode cX8_keepsWaysAndRests 102 = .ok (.ireturn, 1) := by decide +kernel
theorem dX8_keepsWaysAndRests_103 : decode cX8_keepsWaysAndRests 103 = .ok (.iload 6, 2) := by decide +kernel
theorem dX8_keepsWaysAndRests_105 : decode cX8_keepsWaysAndRests 105 = .ok (.istore_n 2, 1) := by decide +kernel
theorem dX8_keepsWaysAndRests_106 : decode cX8_keepsWaysAndRests 106 = .ok (.iload 5, 2) := by decide +kernel
theorem dX8_keepsWaysAndRests_108 : decode cX8_keepsWaysAndRests 108 = .ok (.istore_n 3, 1) := by decide +kernel
theorem dX8_keepsWaysAndRests_109 : decode cX8_keepsWaysAndRests 109 = .ok (.iinc 5 1, 3) := by decide +kernel
theorem dX8_keepsWaysAndRests_112 : decode cX8_keepsWaysAndRests 112 = .ok (.goto (-102), 3) := by decide +kernel
theorem dX8_keepsWaysAndRests_115 : decode cX8_keepsWaysAndRests 115 = .ok (.iconst 1, 1) := by decide +kernel
theorem dX8_keepsWaysAndRests_116 : decode cX8_keepsWaysAndRests 116 = .ok (.ireturn, 1) := by decide +kernel
theorem dX7_nextToken_0 : decode cX7_nextToken 0 = .ok (.aload_n 0, 1) := by decide +kernel
theorem dX7_nextToken_1 : decode cX7_nextToken 1 = .ok (.getfield 65, 3) := by decide +kernel
theorem dX7_nextToken_4 : decode cX7_nextToken 4 = .ok (.aload_n 0, 1) := by decide +kernel
theorem dX7_nextToken_5 : decode cX7_nextToken 5 = .ok (.getfield 21, 3) := by decide +kernel
theorem dX7_nextToken_8 : decode cX7_nextToken 8 = .ok (.getfield 145, 3) := by decide +kernel
theorem dX7_nextToken_11 : decode cX7_nextToken 11 = .ok (.if_icmp .ge 33, 3) := by decide +kernel
theorem dX7_nextToken_14 : decode cX7_nextToken 14 = .ok (.aload_n 0, 1) := by decide +kernel
theorem dX7_nextToken_15 : decode cX7_nextToken 15 = .ok (.getfield 21, 3) := by decide +kernel
theorem dX7_nextToken_18 : decode cX7_nextToken 18 = .ok (.aload_n 0, 1) := by decide +kernel
theorem dX7_nextToken_19 : decode cX7_nextToken 19 = .ok (.getfield 65, 3) := by decide +kernel
theorem dX7_nextToken_22 : decode cX7_nextToken 22 = .ok (.invokevirtual 148, 3) := by decide +kernel
theorem dX7_nextToken_25 : decode cX7_nextToken 25 = .ok (.invokestatic 152, 3) := by decide +kernel
theorem dX7_nextToken_28 : decode cX7_nextToken 28 = .ok (.ifCond .eq 16, 3) := by decide +kernel
theorem dX7_nextToken_31 : decode cX7_nextToken 31 = .ok (.aload_n 0, 1) := by decide +kernel
theorem dX7_nextToken_32 : decode cX7_nextToken 32 = .ok (.dup, 1) := by decide +kernel
theorem dX7_nextToken_33 : decode cX7_nextToken 33 = .ok (.getfield 65, 3) := by decide +kernel
theorem dX7_nextToken_36 : decode cX7_nextToken 36 = .ok (.iconst 1, 1) := by decide +kernel
theorem dX7_nextToken_37 : decode cX7_nextToken 37 = .ok (.iadd, 1) := by decide +kernel
theorem dX7_nextToken_38 : decode cX7_nextToken 38 = .ok (.putfield 65, 3) := by decide +kernel
theorem dX7_nextToken_41 : decode cX7_nextToken 41 = .ok (.goto (-41), 3) := by decide +kernel
theorem dX7_nextToken_44 : decode cX7_nextToken 44 = .ok (.aload_n 0, 1) := by decide +kernel
theorem dX7_nextToken_45 : decode cX7_nextToken 45 = .ok (.aload_n 0, 1) := by decide +kernel
theorem dX7_nextToken_46 : decode cX7_nextToken 46 = .ok (.getfield 65, 3) := by decide +kernel
theorem dX7_nextToken_49 : decode cX7_nextToken 49 = .ok (.putfield 142, 3) := by decide +kernel
theorem dX7_nextToken_52 : decode cX7_nextToken 52 = .ok (.aload_n 0, 1) := by decide +kernel
theorem dX7_nextToken_53 : decode cX7_nextToken 53 = .ok (.getfield 21, 3) := by decide +kernel
theorem dX7_nextToken_56 : decode cX7_nextToken 56 = .ok (.aload_n 0, 1) := by decide +kernel
theorem dX7_nextToken_57 : decode cX7_nextToken 57 = .ok (.getfield 65, 3) := by decide +kernel
theorem dX7_nextToken_60 : decode cX7_nextToken 60 = .ok (.invokevirtual 148, 3) := by decide +kernel
theorem dX7_nextToken_63 : decode cX7_nextToken 63 = .ok (.istore_n 1, 1) := by decide +kernel
theorem dX7_nextToken_64 : decode cX7_nextToken 64 = .ok (.iload_n 1, 1) := by decide +kernel
theorem dX7_nextToken_65 : decode cX7_nextToken 65 = .ok (.iconst (-1), 1) := by decide +kernel
theorem dX7_nextToken_66 : decode cX7_nextToken 66 = .ok (.if_icmp .ne 11, 3) := by decide +kernel
theorem dX7_nextToken_69 : decode cX7_nextToken 69 = .ok (.aload_n 0, 1) := by decide +kernel
theorem dX7_nextToken_70 : decode cX7_nextToken 70 = .ok (.iconst 4, 1) := by decide +kernel
theorem dX7_nextToken_71 : decode cX7_nextToken 71 = .ok (.putfield 32, 3) := by decide +kernel
theorem dX7_nextToken_74 : decode cX7_nextToken 74 = .ok (.goto 49, 3) := by decide +kernel
theorem dX7_nextToken_77 : decode cX7_nextToken 77 = .ok (.iload_n 1, 1) := by decide +kernel
theorem dX7_nextToken_78 : decode cX7_nextToken 78 = .ok (.invokestatic 155, 3) := by decide +kernel
theorem dX7_nextToken_81 : decode cX7_nextToken 81 = .ok (.ifCond .ne 10, 3) := by decide +kernel
theorem dX7_nextToken_84 : decode cX7_nextToken 84 = .ok (.iload_n 1, 1) := by decide +kernel
theorem dX7_nextToken_85 : decode cX7_nextToken 85 = .ok (.invokestatic 158, 3) := by decide +kernel
theorem dX7_nextToken_88 : decode cX7_nextToken 88 = .ok (.ifCond .eq 10, 3) := by decide +kernel
theorem dX7_nextToken_91 : decode cX7_nextToken 91 = .ok (.aload_n 0, 1) := by decide +kernel
theorem dX7_nextToken_92 : decode cX7_nextToken 92 = .ok (.invokevirtual 161, 3) := by decide +kernel
theorem dX7_nextToken_95 : decode cX7_nextToken 95 = .ok (.goto 28, 3) := by decide +kernel
theorem dX7_nextToken_98 : decode cX7_nextToken 98 = .ok (.aload_n 0, 1) := by decide +kernel
theorem dX7_nextToken_99 : decode cX7_nextToken 99 = .ok (.dup, 1) := by decide +kernel
theorem dX7_nextToken_100 : decode cX7_nextToken 100 = .ok (.getfield 65, 3) := by decide +kernel
theorem dX7_nextToken_103 : decode cX7_nextToken 103 = .ok (.iconst 1, 1) := by decide +kernel
theorem dX7_nextToken_104 : decode cX7_nextToken 104 = .ok (.iadd, 1) := by decide +kernel
theorem dX7_nextToken_105 : decode cX7_nextToken 105 = .ok (.putfield 65, 3) := by decide +kernel
theorem dX7_nextToken_108 : decode cX7_nextToken 108 = .ok (.aload_n 0, 1) := by decide +kernel
theorem dX7_nextToken_109 : decode cX7_nextToken 109 = .ok (.iload_n 1, 1) := by decide +kernel
theorem dX7_nextToken_110 : decode cX7_nextToken 110 = .ok (.bipush 59, 2) := by decide +kernel
theorem dX7_nextToken_112 : decode cX7_nextToken 112 = .ok (.if_icmp .ne 7, 3) := by decide +kernel
theorem dX7_nextToken_115 : decode cX7_nextToken 115 = .ok (.iconst 3, 1) := by decide +kernel
theorem dX7_nextToken_116 : decode cX7_nextToken 116 = .ok (.goto 4, 3) := by decide +kernel
theorem dX7_nextToken_119 : decode cX7_nextToken 119 = .ok (.iconst 0, 1) := by decide +kernel
theorem dX7_nextToken_120 : decode cX7_nextToken 120 = .ok (.putfield 32, 3) := by decide +kernel
theorem dX7_nextToken_123 : decode cX7_nextToken 123 = .ok (.return_, 1) := by decide +kernel
theorem dX8_init_0 : decode cX8_init 0 = .ok (.aload_n 0, 1) := by decide +kernel
theorem dX8_init_1 : decode cX8_init 1 = .ok (.invokespecial 1, 3) := by decide +kernel
theorem dX8_init_4 : decode cX8_init 4 = .ok (.aload_n 0, 1) := by decide +kernel
theorem dX8_init_5 : decode cX8_init 5 = .ok (.new 7, 3) := by decide +kernel
theorem dX8_init_8 : decode cX8_init 8 = .ok (.dup, 1) := by decide +kernel
theorem dX8_init_9 : decode cX8_init 9 = .ok (.invokespecial 9, 3) := by decide +kernel
theorem dX8_init_12 : decode cX8_init 12 = .ok (.putfield 10, 3) := by decide +kernel
theorem dX8_init_15 : decode cX8_init 15 = .ok (.aload_n 0, 1) := by decide +kernel
theorem dX8_init_16 : decode cX8_init 16 = .ok (.bipush 12, 2) := by decide +kernel
theorem dX8_init_18 : decode cX8_init 18 = .ok (.anewarray 16, 3) := by decide +kernel
theorem dX8_init_21 : decode cX8_init 21 = .ok (.putfield 18, 3) := by decide +kernel
theorem dX8_init_24 : decode cX8_init 24 = .ok (.aload_n 0, 1) := by decide +kernel
theorem dX8_init_25 : decode cX8_init 25 = .ok (.bipush 6, 2) := by decide +kernel
theorem dX8_init_27 : decode cX8_init 27 = .ok (.anewarray 22, 3) := by decide +kernel
theorem dX8_init_30 : decode cX8_init 30 = .ok (.putfield 24, 3) := by decide +kernel
theorem dX8_init_33 : decode cX8_init 33 = .ok (.aload_n 0, 1) := by decide +kernel
theorem dX8_init_34 : decode cX8_init 34 = .ok (.new 28, 3) := by decide +kernel
theorem dX8_init_37 : decode cX8_init 37 = .ok (.dup, 1) := by decide +kernel
theorem dX8_init_38 : decode cX8_init 38 = .ok (.invokespecial 30, 3) := by decide +kernel
theorem dX8_init_41 : decode cX8_init 41 = .ok (.putfield 31, 3) := by decide +kernel
theorem dX8_init_44 : decode cX8_init 44 = .ok (.aload_n 0, 1) := by decide +kernel
theorem dX8_init_45 : decode cX8_init 45 = .ok (.new 35, 3) := by decide +kernel
theorem dX8_init_48 : decode cX8_init 48 = .ok (.dup, 1) := by decide +kernel
theorem dX8_init_49 : decode cX8_init 49 = .ok (.invokespecial 37, 3) := by decide +kernel
theorem dX8_init_52 : decode cX8_init 52 = .ok (.putfield 38, 3) := by decide +kernel
theorem dX8_init_55 : decode cX8_init 55 = .ok (.aload_n 0, 1) := by decide +kernel
theorem dX8_init_56 : decode cX8_init 56 = .ok (.new 42, 3) := by decide +kernel
theorem dX8_init_59 : decode cX8_init 59 = .ok (.dup, 1) := by decide +kernel
theorem dX8_init_60 : decode cX8_init 60 = .ok (.invokespecial 44, 3) := by decide +kernel
theorem dX8_init_63 : decode cX8_init 63 = .ok (.putfield 45, 3) := by decide +kernel
theorem dX8_init_66 : decode cX8_init 66 = .ok (.iconst 0, 1) := by decide +kernel
theorem dX8_init_67 : decode cX8_init 67 = .ok (.istore_n 1, 1) := by decide +kernel
theorem dX8_init_68 : decode cX8_init 68 = .ok (.iload_n 1, 1) := by decide +kernel
theorem dX8_init_69 : decode cX8_init 69 = .ok (.bipush 12, 2) := by decide +kernel
theorem dX8_init_71 : decode cX8_init 71 = .ok (.if_icmp .ge 22, 3) := by decide +kernel
theorem dX8_init_74 : decode cX8_init 74 = .ok (.aload_n 0, 1) := by decide +kernel
theorem dX8_init_75 : decode cX8_init 75 = .ok (.getfield 18, 3) := by decide +kernel
theorem dX8_init_78 : decode cX8_init 78 = .ok (.iload_n 1, 1) := by decide +kernel
theorem dX8_init_79 : decode cX8_init 79 = .ok (.new 16, 3) := by decide +kernel
theorem dX8_init_82 : decode cX8_init 82 = .ok (.dup, 1) := by decide +kernel
theorem dX8_init_83 : decode cX8_init 83 = .ok (.invokespecial 49, 3) := by decide +kernel
theorem dX8_init_86 : decode cX8_init 86 = .ok (.aastore, 1) := by decide +kernel
theorem dX8_init_87 : decode cX8_init 87 = .ok (.iinc 1 1, 3) := by decide +kernel
theorem dX8_init_90 : decode cX8_init 90 = .ok (.goto (-22), 3) := by decide +kernel
theorem dX8_init_93 : decode cX8_init 93 = .ok (.iconst 0, 1) := by decide +kernel
theorem dX8_init_94 : decode cX8_init 94 = .ok (.istore_n 1, 1) := by decide +kernel
theorem dX8_init_95 : decode cX8_init 95 = .ok (.iload_n 1, 1) := by decide +kernel
theorem dX8_init_96 : decode cX8_init 96 = .ok (.bipush 6, 2) := by decide +kernel
theorem dX8_init_98 : decode cX8_init 98 = .ok (.if_icmp .ge 22, 3) := by decide +kernel
theorem dX8_init_101 : decode cX8_init 101 = .ok (.aload_n 0, 1) := by decide +kernel
theorem dX8_init_102 : decode cX8_init 102 = .ok (.getfield 24, 3) := by decide +kernel
theorem dX8_init_105 : decode cX8_init 105 = .ok (.iload_n 1, 1) := by decide +kernel
theorem dX8_init_106 : decode cX8_init 106 = .ok (.new 22, 3) := by decide +kernel
theorem dX8_init_109 : decode cX8_init 109 = .ok (.dup, 1) := by decide +kernel
theorem dX8_init_110 : decode cX8_init 110 = .ok (.invokespecial 50, 3) := by decide +kernel
theorem dX8_init_113 : decode cX8_init 113 = .ok (.aastore, 1) := by decide +kernel
theorem dX8_init_114 : decode cX8_init 114 = .ok (.iinc 1 1, 3) := by decide +kernel
theorem dX8_init_117 : decode cX8_init 117 = .ok (.goto (-22), 3) := by decide +kernel
theorem dX8_init_120 : decode cX8_init 120 = .ok (.return_, 1) := by decide +kernel
theorem dX8_on_0 : decode cX8_on 0 = .ok (.aload_n 0, 1) := by decide +kernel
theorem dX8_on_1 : decode cX8_on 1 = .ok (.iload_n 1, 1) := by decide +kernel
theorem dX8_on_2 : decode cX8_on 2 = .ok (.invokevirtual 101, 3) := by decide +kernel
theorem dX8_on_5 : decode cX8_on 5 = .ok (.ifCond .eq 10, 3) := by decide +kernel
theorem dX8_on_8 : decode cX8_on 8 = .ok (.iload_n 2, 1) := by decide +kernel
theorem dX8_on_9 : decode cX8_on 9 = .ok (.invokestatic 87, 3) := by decide +kernel
theorem dX8_on_12 : decode cX8_on 12 = .ok (.ifCond .ne 5, 3) := by decide +kernel
theorem dX8_on_15 : decode cX8_on 15 = .ok (.iconst (-1), 1) := by decide +kernel
theorem dX8_on_16 : decode cX8_on 16 = .ok (.ireturn, 1) := by decide +kernel
theorem dX8_on_17 : decode cX8_on 17 = .ok (.aload_n 0, 1) := by decide +kernel
theorem dX8_on_18 : decode cX8_on 18 = .ok (.getfield 24, 3) := by decide +kernel
theorem dX8_on_21 : decode cX8_on 21 = .ok (.iload_n 1, 1) := by decide +kernel
theorem dX8_on_22 : decode cX8_on 22 = .ok (.aaload, 1) := by decide +kernel
theorem dX8_on_23 : decode cX8_on 23 = .ok (.getfield 163, 3) := by decide +kernel
theorem dX8_on_26 : decode cX8_on 26 = .ok (.iload_n 2, 1) := by decide +kernel
theorem dX8_on_27 : decode cX8_on 27 = .ok (.iaload, 1) := by decide +kernel
theorem dX8_on_28 : decode cX8_on 28 = .ok (.ireturn, 1) := by decide +kernel
theorem dX8_worth_0 : decode cX8_worth 0 = .ok (.aload_n 0, 1) := by decide +kernel
theorem dX8_worth_1 : decode cX8_worth 1 = .ok (.iload_n 1, 1) := by decide +kernel
theorem dX8_worth_2 : decode cX8_worth 2 = .ok (.invokevirtual 101, 3) := by decide +kernel
theorem dX8_worth_5 : decode cX8_worth 5 = .ok (.ifCond .eq 11, 3) := by decide +kernel
theorem dX8_worth_8 : decode cX8_worth 8 = .ok (.aload_n 0, 1) := by decide +kernel
theorem dX8_worth_9 : decode cX8_worth 9 = .ok (.iload_n 1, 1) := by decide +kernel
theorem dX8_worth_10 : decode cX8_worth 10 = .ok (.invokevirtual 160, 3) := by decide +kernel
theorem dX8_worth_13 : decode cX8_worth 13 = .ok (.goto 4, 3) := by decide +kernel
theorem dX8_worth_16 : decode cX8_worth 16 = .ok (.iconst (-1), 1) := by decide +kernel
theorem dX8_worth_17 : decode cX8_worth 17 = .ok (.ireturn, 1) := by decide +kernel
theorem dX8_door_0 : decode cX8_door 0 = .ok (.aload_n 0, 1) := by decide +kernel
theorem dX8_door_1 : decode cX8_door 1 = .ok (.iload_n 1, 1) := by decide +kernel
theorem dX8_door_2 : decode cX8_door 2 = .ok (.invokevirtual 101, 3) := by decide +kernel
theorem dX8_door_5 : decode cX8_door 5 = .ok (.ifCond .eq 20, 3) := by decide +kernel
theorem dX8_door_8 : decode cX8_door 8 = .ok (.iload_n 2, 1) := by decide +kernel
theorem dX8_door_9 : decode cX8_door 9 = .ok (.invokestatic 87, 3) := by decide +kernel
theorem dX8_door_12 : decode cX8_door 12 = .ok (.ifCond .eq 13, 3) := by decide +kernel
theorem dX8_door_15 : decode cX8_door 15 = .ok (.iload_n 3, 1) := by decide +kernel
theorem dX8_door_16 : decode cX8_door 16 = .ok (.iconst 0, 1) := by decide +kernel
theorem dX8_door_17 : decode cX8_door 17 = .ok (.ldc 206, 2) := by decide +kernel
theorem dX8_door_19 : decode cX8_door 19 = .ok (.invokestatic 62, 3) := by decide +kernel
theorem dX8_door_22 : decode cX8_door 22 = .ok (.ifCond .ne 5, 3) := by decide +kernel
theorem dX8_door_25 : decode cX8_door 25 = .ok (.iconst 0, 1) := by decide +kernel
theorem dX8_door_26 : decode cX8_door 26 = .ok (.ireturn, 1) := by decide +kernel
theorem dX8_door_27 : decode cX8_door 27 = .ok (.aload_n 0, 1) := by decide +kernel
theorem dX8_door_28 : decode cX8_door 28 = .ok (.getfield 24, 3) := by decide +kernel
theorem dX8_door_31 : decode cX8_door 31 = .ok (.iload_n 1, 1) := by decide +kernel
theorem dX8_door_32 : decode cX8_door 32 = .ok (.aaload, 1) := by decide +kernel
theorem dX8_door_33 : decode cX8_door 33 = .ok (.getfield 163, 3) := by decide +kernel
theorem dX8_door_36 : decode cX8_door 36 = .ok (.iload_n 2, 1) := by decide +kernel
theorem dX8_door_37 : decode cX8_door 37 = .ok (.iaload, 1) := by decide +kernel
theorem dX8_door_38 : decode cX8_door 38 = .ok (.iconst (-1), 1) := by decide +kernel
theorem dX8_door_39 : decode cX8_door 39 = .ok (.if_icmp .ne 5, 3) := by decide +kernel
theorem dX8_door_42 : decode cX8_door 42 = .ok (.iconst 0, 1) := by decide +kernel
theorem dX8_door_43 : decode cX8_door 43 = .ok (.ireturn, 1) := by decide +kernel
theorem dX8_door_44 : decode cX8_door 44 = .ok (.aload_n 0, 1) := by decide +kernel
theorem dX8_door_45 : decode cX8_door 45 = .ok (.getfield 24, 3) := by decide +kernel
theorem dX8_door_48 : decode cX8_door 48 = .ok (.iload_n 1, 1) := by decide +kernel
theorem dX8_door_49 : decode cX8_door 49 = .ok (.aaload, 1) := by decide +kernel
theorem dX8_door_50 : decode cX8_door 50 = .ok (.getfield 170, 3) := by decide +kernel
theorem dX8_door_53 : decode cX8_door 53 = .ok (.iload_n 2, 1) := by decide +kernel
theorem dX8_door_54 : decode cX8_door 54 = .ok (.iload_n 3, 1) := by decide +kernel
theorem dX8_door_55 : decode cX8_door 55 = .ok (.iastore, 1) := by decide +kernel
theorem dX8_door_56 : decode cX8_door 56 = .ok (.iconst 1, 1) := by decide +kernel
theorem dX8_door_57 : decode cX8_door 57 = .ok (.ireturn, 1) := by decide +kernel
theorem dX8_isHallBuild_0 : decode cX8_isHallBuild 0 = .ok (.iload_n 1, 1) := by decide +kernel
theorem dX8_isHallBuild_1 : decode cX8_isHallBuild 1 = .ok (.invokestatic 83, 3) := by decide +kernel
theorem dX8_isHallBuild_4 : decode cX8_isHallBuild 4 = .ok (.ifCond .eq 26, 3) := by decide +kernel
theorem dX8_isHallBuild_7 : decode cX8_isHallBuild 7 = .ok (.iload_n 2, 1) := by decide +kernel
theorem dX8_isHallBuild_8 : decode cX8_isHallBuild 8 = .ok (.invokestatic 83, 3) := by decide +kernel
theorem dX8_isHallBuild_11 : decode cX8_isHallBuild 11 = .ok (.ifCond .eq 19, 3) := by decide +kernel
theorem dX8_isHallBuild_14 : decode cX8_isHallBuild 14 = .ok (.aload_n 0, 1) := by decide +kernel
theorem dX8_isHallBuild_15 : decode cX8_isHallBuild 15 = .ok (.getfield 10, 3) := by decide +kernel
theorem dX8_isHallBuild_18 : decode cX8_isHallBuild 18 = .ok (.iconst 1, 1) := by decide +kernel
theorem dX8_isHallBuild_19 : decode cX8_isHallBuild 19 = .ok (.iconst 4, 1) := by decide +kernel
theorem dX8_isHallBuild_20 : decode cX8_isHallBuild 20 = .ok (.invokevirtual 90, 3) := by decide +kernel
theorem dX8_isHallBuild_23 : decode cX8_isHallBuild 23 = .ok (.ifCond .eq 7, 3) := by decide +kernel
theorem dX8_isHallBuild_26 : decode cX8_isHallBuild 26 = .ok (.iconst 1, 1) := by decide +kernel
theorem dX8_isHallBuild_27 : decode cX8_isHallBuild 27 = .ok (.goto 4, 3) := by decide +kernel
theorem dX8_isHallBuild_30 : decode cX8_isHallBuild 30 = .ok (.iconst 0, 1) := by decide +kernel
theorem dX8_isHallBuild_31 : decode cX8_isHallBuild 31 = .ok (.ireturn, 1) := by decide +kernel
theorem dX8_canMove_0 : decode cX8_canMove 0 = .ok (.aload_n 1, 1) := by decide +kernel
theorem dX8_canMove_1 : decode cX8_canMove 1 = .ok (.getfield 163, 3) := by decide +kernel
theorem dX8_canMove_4 : decode cX8_canMove 4 = .ok (.iload_n 3, 1) := by decide +kernel
theorem dX8_canMove_5 : decode cX8_canMove 5 = .ok (.iaload, 1) := by decide +kernel
theorem dX8_canMove_6 : decode cX8_canMove 6 = .ok (.iconst (-1), 1) := by decide +kernel
theorem dX8_canMove_7 : decode cX8_canMove 7 = .ok (.if_icmp .ne 13, 3) := by decide +kernel
theorem dX8_canMove_10 : decode cX8_canMove 10 = .ok (.aload_n 0, 1) := by decide +kernel
theorem dX8_canMove_11 : decode cX8_canMove 11 = .ok (.iload_n 2, 1) := by decide +kernel
theorem dX8_canMove_12 : decode cX8_canMove 12 = .ok (.iload_n 3, 1) := by decide +kernel
theorem dX8_canMove_13 : decode cX8_canMove 13 = .ok (.invokevirtual 166, 3) := by decide +kernel
theorem dX8_canMove_16 : decode cX8_canMove 16 = .ok (.iconst (-1), 1) := by decide +kernel
theorem dX8_canMove_17 : decode cX8_canMove 17 = .ok (.if_icmp .eq 5, 3) := by decide +kernel
theorem dX8_canMove_20 : decode cX8_canMove 20 = .ok (.iconst 0, 1) := by decide +kernel
theorem dX8_canMove_21 : decode cX8_canMove 21 = .ok (.ireturn, 1) := by decide +kernel
theorem dX8_canMove_22 : decode cX8_canMove 22 = .ok (.aload_n 1, 1) := by decide +kernel
theorem dX8_canMove_23 : decode cX8_canMove 23 = .ok (.getfield 163, 3) := by decide +kernel
theorem dX8_canMove_26 : decode cX8_canMove 26 = .ok (.iload_n 3, 1) := by decide +kernel
theorem dX8_canMove_27 : decode cX8_canMove 27 = .ok (.iload_n 2, 1) := by decide +kernel
theorem dX8_canMove_28 : decode cX8_canMove 28 = .ok (.iastore, 1) := by decide +kernel
theorem dX8_canMove_29 : decode cX8_canMove 29 = .ok (.aload_n 0, 1) := by decide +kernel
theorem dX8_canMove_30 : decode cX8_canMove 30 = .ok (.aload_n 1, 1) := by decide +kernel
theorem dX8_canMove_31 : decode cX8_canMove 31 = .ok (.invokevirtual 236, 3) := by decide +kernel
theorem dX8_canMove_34 : decode cX8_canMove 34 = .ok (.istore 4, 2) := by decide +kernel
theorem dX8_canMove_36 : decode cX8_canMove 36 = .ok (.aload_n 1, 1) := by decide +kernel
theorem dX8_canMove_37 : decode cX8_canMove 37 = .ok (.getfield 163, 3) := by decide +kernel
theorem dX8_canMove_40 : decode cX8_canMove 40 = .ok (.iload_n 3, 1) := by decide +kernel
theorem dX8_canMove_41 : decode cX8_canMove 41 = .ok (.iconst (-1), 1) := by decide +kernel
theorem dX8_canMove_42 : decode cX8_canMove 42 = .ok (.iastore, 1) := by decide +kernel
theorem dX8_canMove_43 : decode cX8_canMove 43 = .ok (.iload 4, 2) := by decide +kernel
theorem dX8_canMove_45 : decode cX8_canMove 45 = .ok (.ireturn, 1) := by decide +kernel
theorem dX7_readNumber_0 : decode cX7_readNumber 0 = .ok (.aload_n 0, 1) := by decide +kernel
theorem dX7_readNumber_1 : decode cX7_readNumber 1 = .ok (.invokevirtual 29, 3) := by decide +kernel
theorem dX7_readNumber_4 : decode cX7_readNumber 4 = .ok (.aload_n 0, 1) := by decide +kernel
theorem dX7_readNumber_5 : decode cX7_readNumber 5 = .ok (.getfield 32, 3) := by decide +kernel
theorem dX7_readNumber_8 : decode cX7_readNumber 8 = .ok (.iconst 2, 1) := by decide +kernel
theorem dX7_readNumber_9 : decode cX7_readNumber 9 = .ok (.if_icmp .eq 8, 3) := by decide +kernel
theorem dX7_readNumber_12 : decode cX7_readNumber 12 = .ok (.aload_n 0, 1) := by decide +kernel
theorem dX7_readNumber_13 : decode cX7_readNumber 13 = .ok (.invokevirtual 92, 3) := by decide +kernel
theorem dX7_readNumber_16 : decode cX7_readNumber 16 = .ok (.ireturn, 1) := by decide +kernel
theorem dX7_readNumber_17 : decode cX7_readNumber 17 = .ok (.aload_n 0, 1) := by decide +kernel
theorem dX7_readNumber_18 : decode cX7_readNumber 18 = .ok (.getfield 104, 3) := by decide +kernel
theorem dX7_readNumber_21 : decode cX7_readNumber 21 = .ok (.iload_n 1, 1) := by decide +kernel
theorem dX7_readNumber_22 : decode cX7_readNumber 22 = .ok (.iload_n 2, 1) := by decide +kernel
theorem dX7_readNumber_23 : decode cX7_readNumber 23 = .ok (.invokestatic 138, 3) := by decide +kernel
theorem dX7_readNumber_26 : decode cX7_readNumber 26 = .ok (.ifCond .ne 11, 3) := by decide +kernel
theorem dX7_readNumber_29 : decode cX7_readNumber 29 = .ok (.aload_n 0, 1) := by decide +kernel
theorem dX7_readNumber_30 : decode cX7_readNumber 30 = .ok (.iconst 3, 1) := by decide +kernel
theorem dX7_readNumber_31 : decode cX7_readNumber 31 = .ok (.invokevirtual 95, 3) := by decide +kernel
theorem dX7_readNumber_34 : decode cX7_readNumber 34 = .ok (.ifCond .eq 7, 3) := by decide +kernel
theorem dX7_readNumber_37 : decode cX7_readNumber 37 = .ok (.iconst 1, 1) := by decide +kernel
theorem dX7_readNumber_38 : decode cX7_readNumber 38 = .ok (.goto 4, 3) := by decide +kernel
theorem dX7_readNumber_41 : decode cX7_readNumber 41 = .ok (.iconst 0, 1) := by decide +kernel
theorem dX7_readNumber_42 : decode cX7_readNumber 42 = .ok (.ireturn, 1) := by decide +kernel
theorem dX7_readStop_0 : decode cX7_readStop 0 = .ok (.aload_n 0, 1) := by decide +kernel
theorem dX7_readStop_1 : decode cX7_readStop 1 = .ok (.invokevirtual 29, 3) := by decide +kernel
theorem dX7_readStop_4 : decode cX7_readStop 4 = .ok (.aload_n 0, 1) := by decide +kernel
theorem dX7_readStop_5 : decode cX7_readStop 5 = .ok (.getfield 32, 3) := by decide +kernel
theorem dX7_readStop_8 : decode cX7_readStop 8 = .ok (.iconst 3, 1) := by decide +kernel
theorem dX7_readStop_9 : decode cX7_readStop 9 = .ok (.if_icmp .eq 10, 3) := by decide +kernel
theorem dX7_readStop_12 : decode cX7_readStop 12 = .ok (.aload_n 0, 1) := by decide +kernel
theorem dX7_readStop_13 : decode cX7_readStop 13 = .ok (.invokevirtual 92, 3) := by decide +kernel
theorem dX7_readStop_16 : decode cX7_readStop 16 = .ok (.ifCond .eq 7, 3) := by decide +kernel
theorem dX7_readStop_19 : decode cX7_readStop 19 = .ok (.iconst 1, 1) := by decide +kernel
theorem dX7_readStop_20 : decode cX7_readStop 20 = .ok (.goto 4, 3) := by decide +kernel
theorem dX7_readStop_23 : decode cX7_readStop 23 = .ok (.iconst 0, 1) := by decide +kernel
theorem dX7_readStop_24 : decode cX7_readStop 24 = .ok (.ireturn, 1) := by decide +kernel
theorem dX8_hall_0 : decode cX8_hall 0 = .ok (.aload_n 0, 1) := by decide +kernel
theorem dX8_hall_1 : decode cX8_hall 1 = .ok (.getfield 59, 3) := by decide +kernel
theorem dX8_hall_4 : decode cX8_hall 4 = .ok (.bipush 12, 2) := by decide +kernel
theorem dX8_hall_6 : decode cX8_hall 6 = .ok (.if_icmp .ge 37, 3) := by decide +kernel
theorem dX8_hall_9 : decode cX8_hall 9 = .ok (.iload_n 1, 1) := by decide +kernel
theorem dX8_hall_10 : decode cX8_hall 10 = .ok (.iconst 0, 1) := by decide +kernel
theorem dX8_hall_11 : decode cX8_hall 11 = .ok (.bipush 99, 2) := by decide +kernel
theorem dX8_hall_13 : decode cX8_hall 13 = .ok (.invokestatic 62, 3) := by decide +kernel
theorem dX8_hall_16 : decode cX8_hall 16 = .ok (.ifCond .eq 27, 3) := by decide +kernel
theorem dX8_hall_19 : decode cX8_hall 19 = .ok (.iload_n 2, 1) := by decide +kernel
theorem dX8_hall_20 : decode cX8_hall 20 = .ok (.iconst 0, 1) := by decide +kernel
theorem dX8_hall_21 : decode cX8_hall 21 = .ok (.bipush 99, 2) := by decide +kernel
theorem dX8_hall_23 : decode cX8_hall 23 = .ok (.invokestatic 62, 3) := by decide +kernel
theorem dX8_hall_26 : decode cX8_hall 26 = .ok (.ifCond .eq 17, 3) := by decide +kernel
theorem dX8_hall_29 : decode cX8_hall 29 = .ok (.aload_n 0, 1) := by decide +kernel
theorem dX8_hall_30 : decode cX8_hall 30 = .ok (.iload_n 3, 1) := by decide +kernel
theorem dX8_hall_31 : decode cX8_hall 31 = .ok (.iload 4, 2) := by decide +kernel
theorem dX8_hall_33 : decode cX8_hall 33 = .ok (.invokevirtual 66, 3) := by decide +kernel
theorem dX8_hall_36 : decode cX8_hall 36 = .ok (.ifCond .eq 7, 3) := by decide +kernel
theorem dX8_hall_39 : decode cX8_hall 39 = .ok (.iconst 1, 1) := by decide +kernel
theorem dX8_hall_40 : decode cX8_hall 40 = .ok (.goto 4, 3) := by decide +kernel
theorem dX8_hall_43 : decode cX8_hall 43 = .ok (.iconst 0, 1) := by decide +kernel
theorem dX8_hall_44 : decode cX8_hall 44 = .ok (.istore 5, 2) := by decide +kernel
theorem dX8_hall_46 : decode cX8_hall 46 = .ok (.iconst (-1), 1) := by decide +kernel
theorem dX8_hall_47 : decode cX8_hall 47 = .ok (.istore 6, 2) := by decide +kernel
theorem dX8_hall_49 : decode cX8_hall 49 = .ok (.iload 5, 2) := by decide +kernel
theorem dX8_hall_51 : decode cX8_hall 51 = .ok (.ifCond .eq 58, 3) := by decide +kernel
theorem dX8_hall_54 : decode cX8_hall 54 = .ok (.aload_n 0, 1) := by decide +kernel
theorem dX8_hall_55 : decode cX8_hall 55 = .ok (.getfield 59, 3) := by decide +kernel
theorem dX8_hall_58 : decode cX8_hall 58 = .ok (.istore 6, 2) := by decide +kernel
theorem dX8_hall_60 : decode cX8_hall 60 = .ok (.aload_n 0, 1) := by decide +kernel
theorem dX8_hall_61 : decode cX8_hall 61 = .ok (.getfield 18, 3) := by decide +kernel
theorem dX8_hall_64 : decode cX8_hall 64 = .ok (.iload 6, 2) := by decide +kernel
theorem dX8_hall_66 : decode cX8_hall 66 = .ok (.aaload, 1) := by decide +kernel
theorem dX8_hall_67 : decode cX8_hall 67 = .ok (.iload_n 1, 1) := by decide +kernel
theorem dX8_hall_68 : decode cX8_hall 68 = .ok (.putfield 70, 3) := by decide +kernel
theorem dX8_hall_71 : decode cX8_hall 71 = .ok (.aload_n 0, 1) := by decide +kernel
theorem dX8_hall_72 : decode cX8_hall 72 = .ok (.getfield 18, 3) := by decide +kernel
theorem dX8_hall_75 : decode cX8_hall 75 = .ok (.iload 6, 2) := by decide +kernel
theorem dX8_hall_77 : decode cX8_hall 77 = .ok (.aaload, 1) := by decide +kernel
theorem dX8_hall_78 : decode cX8_hall 78 = .ok (.iload_n 2, 1) := by decide +kernel
theorem dX8_hall_79 : decode cX8_hall 79 = .ok (.putfield 73, 3) := by decide +kernel
theorem dX8_hall_82 : decode cX8_hall 82 = .ok (.aload_n 0, 1) := by decide +kernel
theorem dX8_hall_83 : decode cX8_hall 83 = .ok (.getfield 18, 3) := by decide +kernel
theorem dX8_hall_86 : decode cX8_hall 86 = .ok (.iload 6, 2) := by decide +kernel
theorem dX8_hall_88 : decode cX8_hall 88 = .ok (.aaload, 1) := by decide +kernel
theorem dX8_hall_89 : decode cX8_hall 89 = .ok (.iload_n 3, 1) := by decide +kernel
theorem dX8_hall_90 : decode cX8_hall 90 = .ok (.iload 4, 2) := by decide +kernel
theorem dX8_hall_92 : decode cX8_hall 92 = .ok (.aload_n 0, 1) := by decide +kernel
theorem dX8_hall_93 : decode cX8_hall 93 = .ok (.getfield 10, 3) := by decide +kernel
theorem dX8_hall_96 : decode cX8_hall 96 = .ok (.invokevirtual 76, 3) := by decide +kernel
theorem dX8_hall_99 : decode cX8_hall 99 = .ok (.aload_n 0, 1) := by decide +kernel
theorem dX8_hall_100 : decode cX8_hall 100 = .ok (.dup, 1) := by decide +kernel
theorem dX8_hall_101 : decode cX8_hall 101 = .ok (.getfield 59, 3) := by decide +kernel
theorem dX8_hall_104 : decode cX8_hall 104 = .ok (.iconst 1, 1) := by decide +kernel
theorem dX8_hall_105 : decode cX8_hall 105 = .ok (.iadd, 1) := by decide +kernel
theorem dX8_hall_106 : decode cX8_hall 106 = .ok (.putfield 59, 3) := by decide +kernel
theorem dX8_hall_109 : decode cX8_hall 109 = .ok (.aload_n 0, 1) := by decide +kernel
theorem dX8_hall_110 : decode cX8_hall 110 = .ok (.getfield 10, 3) := by decide +kernel
theorem dX8_hall_113 : decode cX8_hall 113 = .ok (.iconst 0, 1) := by decide +kernel
theorem dX8_hall_114 : decode cX8_hall 114 = .ok (.putfield 51, 3) := by decide +kernel
theorem dX8_hall_117 : decode cX8_hall 117 = .ok (.iload 6, 2) := by decide +kernel
theorem dX8_hall_119 : decode cX8_hall 119 = .ok (.ireturn, 1) := by decide +kernel
theorem dX8_show_0 : decode cX8_show 0 = .ok (.aload_n 0, 1) := by decide +kernel
theorem dX8_show_1 : decode cX8_show 1 = .ok (.getfield 80, 3) := by decide +kernel
theorem dX8_show_4 : decode cX8_show 4 = .ok (.bipush 6, 2) := by decide +kernel
theorem dX8_show_6 : decode cX8_show 6 = .ok (.if_icmp .ge 78, 3) := by decide +kernel
theorem dX8_show_9 : decode cX8_show 9 = .ok (.iload_n 1, 1) := by decide +kernel
theorem dX8_show_10 : decode cX8_show 10 = .ok (.invokestatic 83, 3) := by decide +kernel
theorem dX8_show_13 : decode cX8_show 13 = .ok (.ifCond .eq 71, 3) := by decide +kernel
theorem dX8_show_16 : decode cX8_show 16 = .ok (.iload_n 2, 1) := by decide +kernel
theorem dX8_show_17 : decode cX8_show 17 = .ok (.invokestatic 83, 3) := by decide +kernel
theorem dX8_show_20 : decode cX8_show 20 = .ok (.ifCond .eq 64, 3) := by decide +kernel
theorem dX8_show_23 : decode cX8_show 23 = .ok (.iload_n 3, 1) := by decide +kernel
theorem dX8_show_24 : decode cX8_show 24 = .ok (.invokestatic 87, 3) := by decide +kernel
theorem dX8_show_27 : decode cX8_show 27 = .ok (.ifCond .eq 57, 3) := by decide +kernel
theorem dX8_show_30 : decode cX8_show 30 = .ok (.iload 4, 2) := by decide +kernel
theorem dX8_show_32 : decode cX8_show 32 = .ok (.invokestatic 87, 3) := by decide +kernel
theorem dX8_show_35 : decode cX8_show 35 = .ok (.ifCond .eq 49, 3) := by decide +kernel
theorem dX8_show_38 : decode cX8_show 38 = .ok (.iload_n 3, 1) := by decide +kernel
theorem dX8_show_39 : decode cX8_show 39 = .ok (.iload 4, 2) := by decide +kernel
theorem dX8_show_41 : decode cX8_show 41 = .ok (.if_icmp .gt 43, 3) := by decide +kernel
theorem dX8_show_44 : decode cX8_show 44 = .ok (.iload 5, 2) := by decide +kernel
theorem dX8_show_46 : decode cX8_show 46 = .ok (.iconst 1, 1) := by decide +kernel
theorem dX8_show_47 : decode cX8_show 47 = .ok (.sipush 200, 3) := by decide +kernel
theorem dX8_show_50 : decode cX8_show 50 = .ok (.invokestatic 62, 3) := by decide +kernel
theorem dX8_show_53 : decode cX8_show 53 = .ok (.ifCond .eq 31, 3) := by decide +kernel
theorem dX8_show_56 : decode cX8_show 56 = .ok (.iload 6, 2) := by decide +kernel
theorem dX8_show_58 : decode cX8_show 58 = .ok (.iconst 1, 1) := by decide +kernel
theorem dX8_show_59 : decode cX8_show 59 = .ok (.bipush 14, 2) := by decide +kernel
theorem dX8_show_61 : decode cX8_show 61 = .ok (.invokestatic 62, 3) := by decide +kernel
theorem dX8_show_64 : decode cX8_show 64 = .ok (.ifCond .eq 20, 3) := by decide +kernel
theorem dX8_show_67 : decode cX8_show 67 = .ok (.aload_n 0, 1) := by decide +kernel
theorem dX8_show_68 : decode cX8_show 68 = .ok (.getfield 10, 3) := by decide +kernel
theorem dX8_show_71 : decode cX8_show 71 = .ok (.iconst 0, 1) := by decide +kernel
theorem dX8_show_72 : decode cX8_show 72 = .ok (.bipush 8, 2) := by decide +kernel
theorem dX8_show_74 : decode cX8_show 74 = .ok (.invokevirtual 90, 3) := by decide +kernel
theorem dX8_show_77 : decode cX8_show 77 = .ok (.ifCond .eq 7, 3) := by decide +kernel
theorem dX8_show_80 : decode cX8_show 80 = .ok (.iconst 1, 1) := by decide +kernel
theorem dX8_show_81 : decode cX8_show 81 = .ok (.goto 4, 3) := by decide +kernel
theorem dX8_show_84 : decode cX8_show 84 = .ok (.iconst 0, 1) := by decide +kernel
theorem dX8_show_85 : decode cX8_show 85 = .ok (.istore 7, 2) := by decide +kernel
theorem dX8_show_87 : decode cX8_show 87 = .ok (.iconst (-1), 1) := by decide +kernel
theorem dX8_show_88 : decode cX8_show 88 = .ok (.istore 8, 2) := by decide +kernel
theorem dX8_show_90 : decode cX8_show 90 = .ok (.iload 7, 2) := by decide +kernel
theorem dX8_show_92 : decode cX8_show 92 = .ok (.ifCond .eq 52, 3) := by decide +kernel
theorem dX8_show_95 : decode cX8_show 95 = .ok (.aload_n 0, 1) := by decide +kernel
theorem dX8_show_96 : decode cX8_show 96 = .ok (.getfield 80, 3) := by decide +kernel
theorem dX8_show_99 : decode cX8_show 99 = .ok (.istore 8, 2) := by decide +kernel
theorem dX8_show_101 : decode cX8_show 101 = .ok (.aload_n 0, 1) := by decide +kernel
theorem dX8_show_102 : decode cX8_show 102 = .ok (.getfield 24, 3) := by decide +kernel
theorem dX8_show_105 : decode cX8_show 105 = .ok (.iload 8, 2) := by decide +kernel
theorem dX8_show_107 : decode cX8_show 107 = .ok (.aaload, 1) := by decide +kernel
theorem dX8_show_108 : decode cX8_show 108 = .ok (.iload_n 1, 1) := by decide +kernel
theorem dX8_show_109 : decode cX8_show 109 = .ok (.iload_n 2, 1) := by decide +kernel
theorem dX8_show_110 : decode cX8_show 110 = .ok (.aload_n 0, 1) := by decide +kernel
theorem dX8_show_111 : decode cX8_show 111 = .ok (.getfield 10, 3) := by decide +kernel
theorem dX8_show_114 : decode cX8_show 114 = .ok (.invokevirtual 93, 3) := by decide +kernel
theorem dX8_show_117 : decode cX8_show 117 = .ok (.aload_n 0, 1) := by decide +kernel
theorem dX8_show_118 : decode cX8_show 118 = .ok (.getfield 24, 3) := by decide +kernel
theorem dX8_show_121 : decode cX8_show 121 = .ok (.iload 8, 2) := by decide +kernel
theorem dX8_show_123 : decode cX8_show 123 = .ok (.aaload, 1) := by decide +kernel
theorem dX8_show_124 : decode cX8_show 124 = .ok (.iload_n 3, 1) := by decide +kernel
theorem dX8_show_125 : decode cX8_show 125 = .ok (.iload 4, 2) := by decide +kernel
theorem dX8_show_127 : decode cX8_show 127 = .ok (.iload 5, 2) := by decide +kernel
theorem dX8_show_129 : decode cX8_show 129 = .ok (.iload 6, 2) := by decide +kernel
theorem dX8_show_131 : decode cX8_show 131 = .ok (.invokevirtual 94, 3) := by decide +kernel
theorem dX8_show_134 : decode cX8_show 134 = .ok (.aload_n 0, 1) := by decide +kernel
theorem dX8_show_135 : decode cX8_show 135 = .ok (.dup, 1) := by decide +kernel
theorem dX8_show_136 : decode cX8_show 136 = .ok (.getfield 80, 3) := by decide +kernel
theorem dX8_show_139 : decode cX8_show 139 = .ok (.iconst 1, 1) := by decide +kernel
theorem dX8_show_140 : decode cX8_show 140 = .ok (.iadd, 1) := by decide +kernel
theorem dX8_show_141 : decode cX8_show 141 = .ok (.putfield 80, 3) := by decide +kernel
theorem dX8_show_144 : decode cX8_show 144 = .ok (.aload_n 0, 1) := by decide +kernel
theorem dX8_show_145 : decode cX8_show 145 = .ok (.getfield 10, 3) := by decide +kernel
theorem dX8_show_148 : decode cX8_show 148 = .ok (.iconst 0, 1) := by decide +kernel
theorem dX8_show_149 : decode cX8_show 149 = .ok (.putfield 51, 3) := by decide +kernel
theorem dX8_show_152 : decode cX8_show 152 = .ok (.iload 8, 2) := by decide +kernel
theorem dX8_show_154 : decode cX8_show 154 = .ok (.ireturn, 1) := by decide +kernel
theorem dX8_rewire_0 : decode cX8_rewire 0 = .ok (.aload_n 0, 1) := by decide +kernel
theorem dX8_rewire_1 : decode cX8_rewire 1 = .ok (.iload_n 1, 1) := by decide +kernel
theorem dX8_rewire_2 : decode cX8_rewire 2 = .ok (.invokevirtual 98, 3) := by decide +kernel
theorem dX8_rewire_5 : decode cX8_rewire 5 = .ok (.ifCond .eq 16, 3) := by decide +kernel
theorem dX8_rewire_8 : decode cX8_rewire 8 = .ok (.aload_n 0, 1) := by decide +kernel
theorem dX8_rewire_9 : decode cX8_rewire 9 = .ok (.iload_n 2, 1) := by decide +kernel
theorem dX8_rewire_10 : decode cX8_rewire 10 = .ok (.iload_n 3, 1) := by decide +kernel
theorem dX8_rewire_11 : decode cX8_rewire 11 = .ok (.invokevirtual 66, 3) := by decide +kernel
theorem dX8_rewire_14 : decode cX8_rewire 14 = .ok (.ifCond .eq 7, 3) := by decide +kernel
theorem dX8_rewire_17 : decode cX8_rewire 17 = .ok (.iconst 1, 1) := by decide +kernel
theorem dX8_rewire_18 : decode cX8_rewire 18 = .ok (.goto 4, 3) := by decide +kernel
theorem dX8_rewire_21 : decode cX8_rewire 21 = .ok (.iconst 0, 1) := by decide +kernel
theorem dX8_rewire_22 : decode cX8_rewire 22 = .ok (.istore 4, 2) := by decide +kernel
theorem dX8_rewire_24 : decode cX8_rewire 24 = .ok (.iload 4, 2) := by decide +kernel
theorem dX8_rewire_26 : decode cX8_rewire 26 = .ok (.ifCond .eq 18, 3) := by decide +kernel
theorem dX8_rewire_29 : decode cX8_rewire 29 = .ok (.aload_n 0, 1) := by decide +kernel
theorem dX8_rewire_30 : decode cX8_rewire 30 = .ok (.getfield 18, 3) := by decide +kernel
theorem dX8_rewire_33 : decode cX8_rewire 33 = .ok (.iload_n 1, 1) := by decide +kernel
theorem dX8_rewire_34 : decode cX8_rewire 34 = .ok (.aaload, 1) := by decide +kernel
theorem dX8_rewire_35 : decode cX8_rewire 35 = .ok (.iload_n 2, 1) := by decide +kernel
theorem dX8_rewire_36 : decode cX8_rewire 36 = .ok (.iload_n 3, 1) := by decide +kernel
theorem dX8_rewire_37 : decode cX8_rewire 37 = .ok (.aload_n 0, 1) := by decide +kernel
theorem dX8_rewire_38 : decode cX8_rewire 38 = .ok (.getfield 10, 3) := by decide +kernel
theorem dX8_rewire_41 : decode cX8_rewire 41 = .ok (.invokevirtual 76, 3) := by decide +kernel
theorem dX8_rewire_44 : decode cX8_rewire 44 = .ok (.aload_n 0, 1) := by decide +kernel
theorem dX8_rewire_45 : decode cX8_rewire 45 = .ok (.getfield 10, 3) := by decide +kernel
theorem dX8_rewire_48 : decode cX8_rewire 48 = .ok (.iconst 0, 1) := by decide +kernel
theorem dX8_rewire_49 : decode cX8_rewire 49 = .ok (.putfield 51, 3) := by decide +kernel
theorem dX8_rewire_52 : decode cX8_rewire 52 = .ok (.iload 4, 2) := by decide +kernel
theorem dX8_rewire_54 : decode cX8_rewire 54 = .ok (.ireturn, 1) := by decide +kernel
theorem dX8_plugged_0 : decode cX8_plugged 0 = .ok (.aload_n 0, 1) := by decide +kernel
theorem dX8_plugged_1 : decode cX8_plugged 1 = .ok (.iload_n 1, 1) := by decide +kernel
theorem dX8_plugged_2 : decode cX8_plugged 2 = .ok (.invokevirtual 101, 3) := by decide +kernel
theorem dX8_plugged_5 : decode cX8_plugged 5 = .ok (.ifCond .eq 31, 3) := by decide +kernel
theorem dX8_plugged_8 : decode cX8_plugged 8 = .ok (.aload_n 0, 1) := by decide +kernel
theorem dX8_plugged_9 : decode cX8_plugged 9 = .ok (.iload_n 2, 1) := by decide +kernel
theorem dX8_plugged_10 : decode cX8_plugged 10 = .ok (.invokevirtual 98, 3) := by decide +kernel
theorem dX8_plugged_13 : decode cX8_plugged 13 = .ok (.ifCond .eq 23, 3) := by decide +kernel
theorem dX8_plugged_16 : decode cX8_plugged 16 = .ok (.iload_n 3, 1) := by decide +kernel
theorem dX8_plugged_17 : decode cX8_plugged 17 = .ok (.ifCond .lt 19, 3) := by decide +kernel
theorem dX8_plugged_20 : decode cX8_plugged 20 = .ok (.iload_n 3, 1) := by decide +kernel
theorem dX8_plugged_21 : decode cX8_plugged 21 = .ok (.aload_n 0, 1) := by decide +kernel
theorem dX8_plugged_22 : decode cX8_plugged 22 = .ok (.getfield 24, 3) := by decide +kernel
theorem dX8_plugged_25 : decode cX8_plugged 25 = .ok (.iload_n 1, 1) := by decide +kernel
theorem dX8_plugged_26 : decode cX8_plugged 26 = .ok (.aaload, 1) := by decide +kernel
theorem dX8_plugged_27 : decode cX8_plugged 27 = .ok (.getfield 116, 3) := by decide +kernel
theorem dX8_plugged_30 : decode cX8_plugged 30 = .ok (.getfield 120, 3) := by decide +kernel
theorem dX8_plugged_33 : decode cX8_plugged 33 = .ok (.if_icmp .lt 5, 3) := by decide +kernel
theorem dX8_plugged_36 : decode cX8_plugged 36 = .ok (.iconst (-1), 1) := by decide +kernel
theorem dX8_plugged_37 : decode cX8_plugged 37 = .ok (.ireturn, 1) := by decide +kernel
theorem dX8_plugged_38 : decode cX8_plugged 38 = .ok (.aload_n 0, 1) := by decide +kernel
theorem dX8_plugged_39 : decode cX8_plugged 39 = .ok (.getfield 31, 3) := by decide +kernel
theorem dX8_plugged_42 : decode cX8_plugged 42 = .ok (.aload_n 0, 1) := by decide +kernel
theorem dX8_plugged_43 : decode cX8_plugged 43 = .ok (.getfield 24, 3) := by decide +kernel
theorem dX8_plugged_46 : decode cX8_plugged 46 = .ok (.iload_n 1, 1) := by decide +kernel
theorem dX8_plugged_47 : decode cX8_plugged 47 = .ok (.aaload, 1) := by decide +kernel
theorem dX8_plugged_48 : decode cX8_plugged 48 = .ok (.getfield 116, 3) := by decide +kernel
theorem dX8_plugged_51 : decode cX8_plugged 51 = .ok (.aload_n 0, 1) := by decide +kernel
theorem dX8_plugged_52 : decode cX8_plugged 52 = .ok (.getfield 18, 3) := by decide +kernel
theorem dX8_plugged_55 : decode cX8_plugged 55 = .ok (.iload_n 2, 1) := by decide +kernel
theorem dX8_plugged_56 : decode cX8_plugged 56 = .ok (.aaload, 1) := by decide +kernel
theorem dX8_plugged_57 : decode cX8_plugged 57 = .ok (.getfield 125, 3) := by decide +kernel
theorem dX8_plugged_60 : decode cX8_plugged 60 = .ok (.invokevirtual 128, 3) := by decide +kernel
theorem dX8_plugged_63 : decode cX8_plugged 63 = .ok (.ifCond .ne 5, 3) := by decide +kernel
theorem dX8_plugged_66 : decode cX8_plugged 66 = .ok (.iconst (-1), 1) := by decide +kernel
theorem dX8_plugged_67 : decode cX8_plugged 67 = .ok (.ireturn, 1) := by decide +kernel
theorem dX8_plugged_68 : decode cX8_plugged 68 = .ok (.aload_n 0, 1) := by decide +kernel
theorem dX8_plugged_69 : decode cX8_plugged 69 = .ok (.getfield 31, 3) := by decide +kernel
theorem dX8_plugged_72 : decode cX8_plugged 72 = .ok (.iload_n 3, 1) := by decide +kernel
theorem dX8_plugged_73 : decode cX8_plugged 73 = .ok (.invokevirtual 132, 3) := by decide +kernel
theorem dX8_plugged_76 : decode cX8_plugged 76 = .ok (.ireturn, 1) := by decide +kernel
theorem dX8_lacks_0 : decode cX8_lacks 0 = .ok (.aload_n 0, 1) := by decide +kernel
theorem dX8_lacks_1 : decode cX8_lacks 1 = .ok (.iload_n 1, 1) := by decide +kernel
theorem dX8_lacks_2 : decode cX8_lacks 2 = .ok (.invokevirtual 101, 3) := by decide +kernel
theorem dX8_lacks_5 : decode cX8_lacks 5 = .ok (.ifCond .eq 11, 3) := by decide +kernel
theorem dX8_lacks_8 : decode cX8_lacks 8 = .ok (.aload_n 0, 1) := by decide +kernel
theorem dX8_lacks_9 : decode cX8_lacks 9 = .ok (.iload_n 2, 1) := by decide +kernel
theorem dX8_lacks_10 : decode cX8_lacks 10 = .ok (.invokevirtual 98, 3) := by decide +kernel
theorem dX8_lacks_13 : decode cX8_lacks 13 = .ok (.ifCond .ne 5, 3) := by decide +kernel
theorem dX8_lacks_16 : decode cX8_lacks 16 = .ok (.iconst (-1), 1) := by decide +kernel
theorem dX8_lacks_17 : decode cX8_lacks 17 = .ok (.ireturn, 1) := by decide +kernel
theorem dX8_lacks_18 : decode cX8_lacks 18 = .ok (.aload_n 0, 1) := by decide +kernel
theorem dX8_lacks_19 : decode cX8_lacks 19 = .ok (.getfield 31, 3) := by decide +kernel
theorem dX8_lacks_22 : decode cX8_lacks 22 = .ok (.aload_n 0, 1) := by decide +kernel
theorem dX8_lacks_23 : decode cX8_lacks 23 = .ok (.getfield 24, 3) := by decide +kernel
theorem dX8_lacks_26 : decode cX8_lacks 26 = .ok (.iload_n 1, 1) := by decide +kernel
theorem dX8_lacks_27 : decode cX8_lacks 27 = .ok (.aaload, 1) := by decide +kernel
theorem dX8_lacks_28 : decode cX8_lacks 28 = .ok (.getfield 116, 3) := by decide +kernel
theorem dX8_lacks_31 : decode cX8_lacks 31 = .ok (.aload_n 0, 1) := by decide +kernel
theorem dX8_lacks_32 : decode cX8_lacks 32 = .ok (.getfield 18, 3) := by decide +kernel
theorem dX8_lacks_35 : decode cX8_lacks 35 = .ok (.iload_n 2, 1) := by decide +kernel
theorem dX8_lacks_36 : decode cX8_lacks 36 = .ok (.aaload, 1) := by decide +kernel
theorem dX8_lacks_37 : decode cX8_lacks 37 = .ok (.getfield 125, 3) := by decide +kernel
theorem dX8_lacks_40 : decode cX8_lacks 40 = .ok (.invokevirtual 135, 3) := by decide +kernel
theorem dX8_lacks_43 : decode cX8_lacks 43 = .ok (.ireturn, 1) := by decide +kernel
theorem dX8_snow_0 : decode cX8_snow 0 = .ok (.aload_n 0, 1) := by decide +kernel
theorem dX8_snow_1 : decode cX8_snow 1 = .ok (.iload_n 1, 1) := by decide +kernel
theorem dX8_snow_2 : decode cX8_snow 2 = .ok (.invokevirtual 98, 3) := by decide +kernel
theorem dX8_snow_5 : decode cX8_snow 5 = .ok (.ifCond .eq 10, 3) := by decide +kernel
theorem dX8_snow_8 : decode cX8_snow 8 = .ok (.iload_n 2, 1) := by decide +kernel
theorem dX8_snow_9 : decode cX8_snow 9 = .ok (.invokestatic 87, 3) := by decide +kernel
theorem dX8_snow_12 : decode cX8_snow 12 = .ok (.ifCond .ne 5, 3) := by decide +kernel
theorem dX8_snow_15 : decode cX8_snow 15 = .ok (.iconst (-1), 1) := by decide +kernel
theorem dX8_snow_16 : decode cX8_snow 16 = .ok (.ireturn, 1) := by decide +kernel
theorem dX8_snow_17 : decode cX8_snow 17 = .ok (.aload_n 0, 1) := by decide +kernel
theorem dX8_snow_18 : decode cX8_snow 18 = .ok (.iload_n 1, 1) := by decide +kernel
theorem dX8_snow_19 : decode cX8_snow 19 = .ok (.iload_n 2, 1) := by decide +kernel
theorem dX8_snow_20 : decode cX8_snow 20 = .ok (.invokevirtual 166, 3) := by decide +kernel
theorem dX8_snow_23 : decode cX8_snow 23 = .ok (.istore_n 3, 1) := by decide +kernel
theorem dX8_snow_24 : decode cX8_snow 24 = .ok (.aload_n 0, 1) := by decide +kernel
theorem dX8_snow_25 : decode cX8_snow 25 = .ok (.iload_n 3, 1) := by decide +kernel
theorem dX8_snow_26 : decode cX8_snow 26 = .ok (.invokevirtual 101, 3) := by decide +kernel
theorem dX8_snow_29 : decode cX8_snow 29 = .ok (.ifCond .ne 5, 3) := by decide +kernel
theorem dX8_snow_32 : decode cX8_snow 32 = .ok (.iconst (-1), 1) := by decide +kernel
theorem dX8_snow_33 : decode cX8_snow 33 = .ok (.ireturn, 1) := by decide +kernel
theorem dX8_snow_34 : decode cX8_snow 34 = .ok (.aload_n 0, 1) := by decide +kernel
theorem dX8_snow_35 : decode cX8_snow 35 = .ok (.getfield 24, 3) := by decide +kernel
theorem dX8_snow_38 : decode cX8_snow 38 = .ok (.iload_n 3, 1) := by decide +kernel
theorem dX8_snow_39 : decode cX8_snow 39 = .ok (.aaload, 1) := by decide +kernel
theorem dX8_snow_40 : decode cX8_snow 40 = .ok (.getfield 163, 3) := by decide +kernel
theorem dX8_snow_43 : decode cX8_snow 43 = .ok (.iload_n 2, 1) := by decide +kernel
theorem dX8_snow_44 : decode cX8_snow 44 = .ok (.iconst (-1), 1) := by decide +kernel
theorem dX8_snow_45 : decode cX8_snow 45 = .ok (.iastore, 1) := by decide +kernel
theorem dX8_snow_46 : decode cX8_snow 46 = .ok (.aload_n 0, 1) := by decide +kernel
theorem dX8_snow_47 : decode cX8_snow 47 = .ok (.getfield 24, 3) := by decide +kernel
theorem dX8_snow_50 : decode cX8_snow 50 = .ok (.iload_n 3, 1) := by decide +kernel
theorem dX8_snow_51 : decode cX8_snow 51 = .ok (.aaload, 1) := by decide +kernel
theorem dX8_snow_52 : decode cX8_snow 52 = .ok (.getfield 170, 3) := by decide +kernel
theorem dX8_snow_55 : decode cX8_snow 55 = .ok (.iload_n 2, 1) := by decide +kernel
theorem dX8_snow_56 : decode cX8_snow 56 = .ok (.iconst (-1), 1) := by decide +kernel
theorem dX8_snow_57 : decode cX8_snow 57 = .ok (.iastore, 1) := by decide +kernel
theorem dX8_snow_58 : decode cX8_snow 58 = .ok (.iload_n 2, 1) := by decide +kernel
theorem dX8_snow_59 : decode cX8_snow 59 = .ok (.iconst 1, 1) := by decide +kernel
theorem dX8_snow_60 : decode cX8_snow 60 = .ok (.iadd, 1) := by decide +kernel
theorem dX8_snow_61 : decode cX8_snow 61 = .ok (.istore 4, 2) := by decide +kernel
theorem dX8_snow_63 : decode cX8_snow 63 = .ok (.iload 4, 2) := by decide +kernel
theorem dX8_snow_65 : decode cX8_snow 65 = .ok (.aload_n 0, 1) := by decide +kernel
theorem dX8_snow_66 : decode cX8_snow 66 = .ok (.getfield 24, 3) := by decide +kernel
theorem dX8_snow_69 : decode cX8_snow 69 = .ok (.iload_n 3, 1) := by decide +kernel
theorem dX8_snow_70 : decode cX8_snow 70 = .ok (.aaload, 1) := by decide +kernel
theorem dX8_snow_71 : decode cX8_snow 71 = .ok (.getfield 173, 3) := by decide +kernel
theorem dX8_snow_74 : decode cX8_snow 74 = .ok (.if_icmp .gt 41, 3) := by decide +kernel
theorem dX8_snow_77 : decode cX8_snow 77 = .ok (.aload_n 0, 1) := by decide +kernel
theorem dX8_snow_78 : decode cX8_snow 78 = .ok (.aload_n 0, 1) := by decide +kernel
theorem dX8_snow_79 : decode cX8_snow 79 = .ok (.getfield 24, 3) := by decide +kernel
theorem dX8_snow_82 : decode cX8_snow 82 = .ok (.iload_n 3, 1) := by decide +kernel
theorem dX8_snow_83 : decode cX8_snow 83 = .ok (.aaload, 1) := by decide +kernel
theorem dX8_snow_84 : decode cX8_snow 84 = .ok (.iload_n 1, 1) := by decide +kernel
theorem dX8_snow_85 : decode cX8_snow 85 = .ok (.iload 4, 2) := by decide +kernel
theorem dX8_snow_87 : decode cX8_snow 87 = .ok (.invokevirtual 176, 3) := by decide +kernel
theorem dX8_snow_90 : decode cX8_snow 90 = .ok (.ifCond .eq 19, 3) := by decide +kernel
theorem dX8_snow_93 : decode cX8_snow 93 = .ok (.aload_n 0, 1) := by decide +kernel
theorem dX8_snow_94 : decode cX8_snow 94 = .ok (.getfield 24, 3) := by decide +kernel
theorem dX8_snow_97 : decode cX8_snow 97 = .ok (.iload_n 3, 1) := by decide +kernel
theorem dX8_snow_98 : decode cX8_snow 98 = .ok (.aaload, 1) := by decide +kernel
theorem dX8_snow_99 : decode cX8_snow 99 = .ok (.getfield 163, 3) := by decide +kernel
theorem dX8_snow_102 : decode cX8_snow 102 = .ok (.iload 4, 2) := by decide +kernel
theorem dX8_snow_104 : decode cX8_snow 104 = .ok (.iload_n 1, 1) := by decide +kernel
theorem dX8_snow_105 : decode cX8_snow 105 = .ok (.iastore, 1) := by decide +kernel
theorem dX8_snow_106 : decode cX8_snow 106 = .ok (.iload 4, 2) := by decide +kernel
theorem dX8_snow_108 : decode cX8_snow 108 = .ok (.ireturn, 1) := by decide +kernel
theorem dX8_snow_109 : decode cX8_snow 109 = .ok (.iinc 4 1, 3) := by decide +kernel
theorem dX8_snow_112 : decode cX8_snow 112 = .ok (.goto (-49), 3) := by decide +kernel
theorem dX8_snow_115 : decode cX8_snow 115 = .ok (.bipush (-2), 2) := by decide +kernel
theorem dX8_snow_117 : decode cX8_snow 117 = .ok (.ireturn, 1) := by decide +kernel
theorem dX8_fitOf_0 : decode cX8_fitOf 0 = .ok (.aload_n 2, 1) := by decide +kernel
theorem dX8_fitOf_1 : decode cX8_fitOf 1 = .ok (.getfield 225, 3) := by decide +kernel
theorem dX8_fitOf_4 : decode cX8_fitOf 4 = .ok (.aload_n 1, 1) := by decide +kernel
theorem dX8_fitOf_5 : decode cX8_fitOf 5 = .ok (.getfield 228, 3) := by decide +kernel
theorem dX8_fitOf_8 : decode cX8_fitOf 8 = .ok (.if_icmp .ge 5, 3) := by decide +kernel
theorem dX8_fitOf_11 : decode cX8_fitOf 11 = .ok (.iconst 0, 1) := by decide +kernel
theorem dX8_fitOf_12 : decode cX8_fitOf 12 = .ok (.ireturn, 1) := by decide +kernel
theorem dX8_fitOf_13 : decode cX8_fitOf 13 = .ok (.aload_n 2, 1) := by decide +kernel
theorem dX8_fitOf_14 : decode cX8_fitOf 14 = .ok (.getfield 229, 3) := by decide +kernel
theorem dX8_fitOf_17 : decode cX8_fitOf 17 = .ok (.aload_n 1, 1) := by decide +kernel
theorem dX8_fitOf_18 : decode cX8_fitOf 18 = .ok (.getfield 232, 3) := by decide +kernel
theorem dX8_fitOf_21 : decode cX8_fitOf 21 = .ok (.if_icmp .ge 5, 3) := by decide +kernel
theorem dX8_fitOf_24 : decode cX8_fitOf 24 = .ok (.iconst (-1), 1) := by decide +kernel
theorem dX8_fitOf_25 : decode cX8_fitOf 25 = .ok (.ireturn, 1) := by decide +kernel
theorem dX8_fitOf_26 : decode cX8_fitOf 26 = .ok (.aload_n 0, 1) := by decide +kernel
theorem dX8_fitOf_27 : decode cX8_fitOf 27 = .ok (.getfield 31, 3) := by decide +kernel
theorem dX8_fitOf_30 : decode cX8_fitOf 30 = .ok (.aload_n 1, 1) := by decide +kernel
theorem dX8_fitOf_31 : decode cX8_fitOf 31 = .ok (.getfield 116, 3) := by decide +kernel
theorem dX8_fitOf_34 : decode cX8_fitOf 34 = .ok (.aload_n 2, 1) := by decide +kernel
theorem dX8_fitOf_35 : decode cX8_fitOf 35 = .ok (.getfield 125, 3) := by decide +kernel
theorem dX8_fitOf_38 : decode cX8_fitOf 38 = .ok (.invokevirtual 128, 3) := by decide +kernel
theorem dX8_fitOf_41 : decode cX8_fitOf 41 = .ok (.ifCond .eq 7, 3) := by decide +kernel
theorem dX8_fitOf_44 : decode cX8_fitOf 44 = .ok (.iconst 1, 1) := by decide +kernel
theorem dX8_fitOf_45 : decode cX8_fitOf 45 = .ok (.goto 5, 3) := by decide +kernel
theorem dX8_fitOf_48 : decode cX8_fitOf 48 = .ok (.bipush (-2), 2) := by decide +kernel
theorem dX8_fitOf_50 : decode cX8_fitOf 50 = .ok (.ireturn, 1) := by decide +kernel
theorem dX7_readFee_0 : decode cX7_readFee 0 = .ok (.aload_n 0, 1) := by decide +kernel
theorem dX7_readFee_1 : decode cX7_readFee 1 = .ok (.getfield 55, 3) := by decide +kernel
theorem dX7_readFee_4 : decode cX7_readFee 4 = .ok (.ifCond .eq 9, 3) := by decide +kernel
theorem dX7_readFee_7 : decode cX7_readFee 7 = .ok (.aload_n 0, 1) := by decide +kernel
theorem dX7_readFee_8 : decode cX7_readFee 8 = .ok (.iconst 4, 1) := by decide +kernel
theorem dX7_readFee_9 : decode cX7_readFee 9 = .ok (.invokevirtual 95, 3) := by decide +kernel
theorem dX7_readFee_12 : decode cX7_readFee 12 = .ok (.ireturn, 1) := by decide +kernel
theorem dX7_readFee_13 : decode cX7_readFee 13 = .ok (.aload_n 0, 1) := by decide +kernel
theorem dX7_readFee_14 : decode cX7_readFee 14 = .ok (.iconst 1, 1) := by decide +kernel
theorem dX7_readFee_15 : decode cX7_readFee 15 = .ok (.putfield 55, 3) := by decide +kernel
theorem dX7_readFee_18 : decode cX7_readFee 18 = .ok (.aload_n 0, 1) := by decide +kernel
theorem dX7_readFee_19 : decode cX7_readFee 19 = .ok (.iconst 0, 1) := by decide +kernel
theorem dX7_readFee_20 : decode cX7_readFee 20 = .ok (.ldc 99, 2) := by decide +kernel
theorem dX7_readFee_22 : decode cX7_readFee 22 = .ok (.invokevirtual 100, 3) := by decide +kernel
theorem dX7_readFee_25 : decode cX7_readFee 25 = .ok (.ifCond .ne 5, 3) := by decide +kernel
theorem dX7_readFee_28 : decode cX7_readFee 28 = .ok (.iconst 0, 1) := by decide +kernel
theorem dX7_readFee_29 : decode cX7_readFee 29 = .ok (.ireturn, 1) := by decide +kernel
theorem dX7_readFee_30 : decode cX7_readFee 30 = .ok (.aload_n 0, 1) := by decide +kernel
theorem dX7_readFee_31 : decode cX7_readFee 31 = .ok (.getfield 12, 3) := by decide +kernel
theorem dX7_readFee_34 : decode cX7_readFee 34 = .ok (.aload_n 0, 1) := by decide +kernel
theorem dX7_readFee_35 : decode cX7_readFee 35 = .ok (.getfield 104, 3) := by decide +kernel
theorem dX7_readFee_38 : decode cX7_readFee 38 = .ok (.putfield 107, 3) := by decide +kernel
theorem dX7_readFee_41 : decode cX7_readFee 41 = .ok (.aload_n 0, 1) := by decide +kernel
theorem dX7_readFee_42 : decode cX7_readFee 42 = .ok (.invokevirtual 109, 3) := by decide +kernel
theorem dX7_readFee_45 : decode cX7_readFee 45 = .ok (.ireturn, 1) := by decide +kernel
theorem dX7_isWord_0 : decode cX7_isWord 0 = .ok (.aload_n 0, 1) := by decide +kernel
theorem dX7_isWord_1 : decode cX7_isWord 1 = .ok (.getfield 32, 3) := by decide +kernel
theorem dX7_isWord_4 : decode cX7_isWord 4 = .ok (.iconst 1, 1) := by decide +kernel
theorem dX7_isWord_5 : decode cX7_isWord 5 = .ok (.if_icmp .ne 19, 3) := by decide +kernel
theorem dX7_isWord_8 : decode cX7_isWord 8 = .ok (.aload_n 0, 1) := by decide +kernel
theorem dX7_isWord_9 : decode cX7_isWord 9 = .ok (.getfield 65, 3) := by decide +kernel
theorem dX7_isWord_12 : decode cX7_isWord 12 = .ok (.aload_n 0, 1) := by decide +kernel
theorem dX7_isWord_13 : decode cX7_isWord 13 = .ok (.getfield 142, 3) := by decide +kernel
theorem dX7_isWord_16 : decode cX7_isWord 16 = .ok (.isub, 1) := by decide +kernel
theorem dX7_isWord_17 : decode cX7_isWord 17 = .ok (.aload_n 1, 1) := by decide +kernel
theorem dX7_isWord_18 : decode cX7_isWord 18 = .ok (.invokevirtual 164, 3) := by decide +kernel
theorem dX7_isWord_21 : decode cX7_isWord 21 = .ok (.if_icmp .eq 5, 3) := by decide +kernel
theorem dX7_isWord_24 : decode cX7_isWord 24 = .ok (.iconst 0, 1) := by decide +kernel
theorem dX7_isWord_25 : decode cX7_isWord 25 = .ok (.ireturn, 1) := by decide +kernel
theorem dX7_isWord_26 : decode cX7_isWord 26 = .ok (.iconst 0, 1) := by decide +kernel
theorem dX7_isWord_27 : decode cX7_isWord 27 = .ok (.istore_n 2, 1) := by decide +kernel
theorem dX7_isWord_28 : decode cX7_isWord 28 = .ok (.iload_n 2, 1) := by decide +kernel
theorem dX7_isWord_29 : decode cX7_isWord 29 = .ok (.aload_n 1, 1) := by decide +kernel
theorem dX7_isWord_30 : decode cX7_isWord 30 = .ok (.invokevirtual 164, 3) := by decide +kernel
theorem dX7_isWord_33 : decode cX7_isWord 33 = .ok (.if_icmp .ge 32, 3) := by decide +kernel
theorem dX7_isWord_36 : decode cX7_isWord 36 = .ok (.aload_n 0, 1) := by decide +kernel
theorem dX7_isWord_37 : decode cX7_isWord 37 = .ok (.getfield 21, 3) := by decide +kernel
theorem dX7_isWord_40 : decode cX7_isWord 40 = .ok (.aload_n 0, 1) := by decide +kernel
theorem dX7_isWord_41 : decode cX7_isWord 41 = .ok (.getfield 142, 3) := by decide +kernel
theorem dX7_isWord_44 : decode cX7_isWord 44 = .ok (.iload_n 2, 1) := by decide +kernel
theorem dX7_isWord_45 : decode cX7_isWord 45 = .ok (.iadd, 1) := by decide +kernel
theorem dX7_isWord_46 : decode cX7_isWord 46 = .ok (.invokevirtual 148, 3) := by decide +kernel
theorem dX7_isWord_49 : decode cX7_isWord 49 = .ok (.aload_n 1, 1) := by decide +kernel
theorem dX7_isWord_50 : decode cX7_isWord 50 = .ok (.iload_n 2, 1) := by decide +kernel
theorem dX7_isWord_51 : decode cX7_isWord 51 = .ok (.invokevirtual 169, 3) := by decide +kernel
theorem dX7_isWord_54 : decode cX7_isWord 54 = .ok (.if_icmp .eq 5, 3) := by decide +kernel
theorem dX7_isWord_57 : decode cX7_isWord 57 = .ok (.iconst 0, 1) := by decide +kernel
theorem dX7_isWord_58 : decode cX7_isWord 58 = .ok (.ireturn, 1) := by decide +kernel
theorem dX7_isWord_59 : decode cX7_isWord 59 = .ok (.iinc 2 1, 3) := by decide +kernel
theorem dX7_isWord_62 : decode cX7_isWord 62 = .ok (.goto (-34), 3) := by decide +kernel
theorem dX7_isWord_65 : decode cX7_isWord 65 = .ok (.iconst 1, 1) := by decide +kernel
theorem dX7_isWord_66 : decode cX7_isWord 66 = .ok (.ireturn, 1) := by decide +kernel
theorem dX8_fits_0 : decode cX8_fits 0 = .ok (.aload_n 0, 1) := by decide +kernel
theorem dX8_fits_1 : decode cX8_fits 1 = .ok (.iload_n 1, 1) := by decide +kernel
theorem dX8_fits_2 : decode cX8_fits 2 = .ok (.invokevirtual 101, 3) := by decide +kernel
theorem dX8_fits_5 : decode cX8_fits 5 = .ok (.ifCond .eq 11, 3) := by decide +kernel
theorem dX8_fits_8 : decode cX8_fits 8 = .ok (.aload_n 0, 1) := by decide +kernel
theorem dX8_fits_9 : decode cX8_fits 9 = .ok (.iload_n 2, 1) := by decide +kernel
theorem dX8_fits_10 : decode cX8_fits 10 = .ok (.invokevirtual 98, 3) := by decide +kernel
theorem dX8_fits_13 : decode cX8_fits 13 = .ok (.ifCond .ne 6, 3) := by decide +kernel
theorem dX8_fits_16 : decode cX8_fits 16 = .ok (.bipush (-3), 2) := by decide +kernel
theorem dX8_fits_18 : decode cX8_fits 18 = .ok (.ireturn, 1) := by decide +kernel
theorem dX8_fits_19 : decode cX8_fits 19 = .ok (.aload_n 0, 1) := by decide +kernel
theorem dX8_fits_20 : decode cX8_fits 20 = .ok (.aload_n 0, 1) := by decide +kernel
theorem dX8_fits_21 : decode cX8_fits 21 = .ok (.getfield 24, 3) := by decide +kernel
theorem dX8_fits_24 : decode cX8_fits 24 = .ok (.iload_n 1, 1) := by decide +kernel
theorem dX8_fits_25 : decode cX8_fits 25 = .ok (.aaload, 1) := by decide +kernel
theorem dX8_fits_26 : decode cX8_fits 26 = .ok (.aload_n 0, 1) := by decide +kernel
theorem dX8_fits_27 : decode cX8_fits 27 = .ok (.getfield 18, 3) := by decide +kernel
theorem dX8_fits_30 : decode cX8_fits 30 = .ok (.iload_n 2, 1) := by decide +kernel
theorem dX8_fits_31 : decode cX8_fits 31 = .ok (.aaload, 1) := by decide +kernel
theorem dX8_fits_32 : decode cX8_fits 32 = .ok (.invokevirtual 112, 3) := by decide +kernel
theorem dX8_fits_35 : decode cX8_fits 35 = .ok (.ireturn, 1) := by decide +kernel
theorem dX7_readLoss_0 : decode cX7_readLoss 0 = .ok (.aload_n 0, 1) := by decide +kernel
theorem dX7_readLoss_1 : decode cX7_readLoss 1 = .ok (.getfield 62, 3) := by decide +kernel
theorem dX7_readLoss_4 : decode cX7_readLoss 4 = .ok (.ifCond .eq 9, 3) := by decide +kernel
theorem dX7_readLoss_7 : decode cX7_readLoss 7 = .ok (.aload_n 0, 1) := by decide +kernel
theorem dX7_readLoss_8 : decode cX7_readLoss 8 = .ok (.iconst 4, 1) := by decide +kernel
theorem dX7_readLoss_9 : decode cX7_readLoss 9 = .ok (.invokevirtual 95, 3) := by decide +kernel
theorem dX7_readLoss_12 : decode cX7_readLoss 12 = .ok (.ireturn, 1) := by decide +kernel
theorem dX7_readLoss_13 : decode cX7_readLoss 13 = .ok (.aload_n 0, 1) := by decide +kernel
theorem dX7_readLoss_14 : decode cX7_readLoss 14 = .ok (.iconst 1, 1) := by decide +kernel
theorem dX7_readLoss_15 : decode cX7_readLoss 15 = .ok (.putfield 62, 3) := by decide +kernel
theorem dX7_readLoss_18 : decode cX7_readLoss 18 = .ok (.aload_n 0, 1) := by decide +kernel
theorem dX7_readLoss_19 : decode cX7_readLoss 19 = .ok (.invokevirtual 29, 3) := by decide +kernel
theorem dX7_readLoss_22 : decode cX7_readLoss 22 = .ok (.aload_n 0, 1) := by decide +kernel
theorem dX7_readLoss_23 : decode cX7_readLoss 23 = .ok (.getfield 12, 3) := by decide +kernel
theorem dX7_readLoss_26 : decode cX7_readLoss 26 = .ok (.aload_n 0, 1) := by decide +kernel
theorem dX7_readLoss_27 : decode cX7_readLoss 27 = .ok (.ldc 131, 2) := by decide +kernel
theorem dX7_readLoss_29 : decode cX7_readLoss 29 = .ok (.invokevirtual 70, 3) := by decide +kernel
theorem dX7_readLoss_32 : decode cX7_readLoss 32 = .ok (.putfield 133, 3) := by decide +kernel
theorem dX7_readLoss_35 : decode cX7_readLoss 35 = .ok (.aload_n 0, 1) := by decide +kernel
theorem dX7_readLoss_36 : decode cX7_readLoss 36 = .ok (.getfield 12, 3) := by decide +kernel
theorem dX7_readLoss_39 : decode cX7_readLoss 39 = .ok (.getfield 133, 3) := by decide +kernel
theorem dX7_readLoss_42 : decode cX7_readLoss 42 = .ok (.ifCond .ne 17, 3) := by decide +kernel
theorem dX7_readLoss_45 : decode cX7_readLoss 45 = .ok (.aload_n 0, 1) := by decide +kernel
theorem dX7_readLoss_46 : decode cX7_readLoss 46 = .ok (.ldc 136, 2) := by decide +kernel
theorem dX7_readLoss_48 : decode cX7_readLoss 48 = .ok (.invokevirtual 70, 3) := by decide +kernel
theorem dX7_readLoss_51 : decode cX7_readLoss 51 = .ok (.ifCond .ne 8, 3) := by decide +kernel
theorem dX7_readLoss_54 : decode cX7_readLoss 54 = .ok (.aload_n 0, 1) := by decide +kernel
theorem dX7_readLoss_55 : decode cX7_readLoss 55 = .ok (.invokevirtual 92, 3) := by decide +kernel
theorem dX7_readLoss_58 : decode cX7_readLoss 58 = .ok (.ireturn, 1) := by decide +kernel
theorem dX7_readLoss_59 : decode cX7_readLoss 59 = .ok (.aload_n 0, 1) := by decide +kernel
theorem dX7_readLoss_60 : decode cX7_readLoss 60 = .ok (.invokevirtual 109, 3) := by decide +kernel
theorem dX7_readLoss_63 : decode cX7_readLoss 63 = .ok (.ireturn, 1) := by decide +kernel
theorem dX7_readWord_0 : decode cX7_readWord 0 = .ok (.aload_n 0, 1) := by decide +kernel
theorem dX7_readWord_1 : decode cX7_readWord 1 = .ok (.invokevirtual 29, 3) := by decide +kernel
theorem dX7_readWord_4 : decode cX7_readWord 4 = .ok (.aload_n 0, 1) := by decide +kernel
theorem dX7_readWord_5 : decode cX7_readWord 5 = .ok (.aload_n 1, 1) := by decide +kernel
theorem dX7_readWord_6 : decode cX7_readWord 6 = .ok (.invokevirtual 70, 3) := by decide +kernel
theorem dX7_readWord_9 : decode cX7_readWord 9 = .ok (.ifCond .ne 10, 3) := by decide +kernel
theorem dX7_readWord_12 : decode cX7_readWord 12 = .ok (.aload_n 0, 1) := by decide +kernel
theorem dX7_readWord_13 : decode cX7_readWord 13 = .ok (.invokevirtual 92, 3) := by decide +kernel
theorem dX7_readWord_16 : decode cX7_readWord 16 = .ok (.ifCond .eq 7, 3) := by decide +kernel
theorem dX7_readWord_19 : decode cX7_readWord 19 = .ok (.iconst 1, 1) := by decide +kernel
theorem dX7_readWord_20 : decode cX7_readWord 20 = .ok (.goto 4, 3) := by decide +kernel
theorem dX7_readWord_23 : decode cX7_readWord 23 = .ok (.iconst 0, 1) := by decide +kernel
theorem dX7_readWord_24 : decode cX7_readWord 24 = .ok (.ireturn, 1) := by decide +kernel
theorem dX8_book_0 : decode cX8_book 0 = .ok (.aload_n 0, 1) := by decide +kernel
theorem dX8_book_1 : decode cX8_book 1 = .ok (.iload_n 1, 1) := by decide +kernel
theorem dX8_book_2 : decode cX8_book 2 = .ok (.invokevirtual 101, 3) := by decide +kernel
theorem dX8_book_5 : decode cX8_book 5 = .ok (.ifCond .ne 5, 3) := by decide +kernel
theorem dX8_book_8 : decode cX8_book 8 = .ok (.iconst (-1), 1) := by decide +kernel
theorem dX8_book_9 : decode cX8_book 9 = .ok (.ireturn, 1) := by decide +kernel
theorem dX8_book_10 : decode cX8_book 10 = .ok (.aload_n 0, 1) := by decide +kernel
theorem dX8_book_11 : decode cX8_book 11 = .ok (.getfield 24, 3) := by decide +kernel
theorem dX8_book_14 : decode cX8_book 14 = .ok (.iload_n 1, 1) := by decide +kernel
theorem dX8_book_15 : decode cX8_book 15 = .ok (.aaload, 1) := by decide +kernel
theorem dX8_book_16 : decode cX8_book 16 = .ok (.invokevirtual 139, 3) := by decide +kernel
theorem dX8_book_19 : decode cX8_book 19 = .ok (.aload_n 0, 1) := by decide +kernel
theorem dX8_book_20 : decode cX8_book 20 = .ok (.getfield 38, 3) := by decide +kernel
theorem dX8_book_23 : decode cX8_book 23 = .ok (.aload_n 0, 1) := by decide +kernel
theorem dX8_book_24 : decode cX8_book 24 = .ok (.getfield 24, 3) := by decide +kernel
theorem dX8_book_27 : decode cX8_book 27 = .ok (.iload_n 1, 1) := by decide +kernel
theorem dX8_book_28 : decode cX8_book 28 = .ok (.aaload, 1) := by decide +kernel
theorem dX8_book_29 : decode cX8_book 29 = .ok (.invokevirtual 142, 3) := by decide +kernel
theorem dX8_book_32 : decode cX8_book 32 = .ok (.iconst 0, 1) := by decide +kernel
theorem dX8_book_33 : decode cX8_book 33 = .ok (.istore_n 2, 1) := by decide +kernel
theorem dX8_book_34 : decode cX8_book 34 = .ok (.iload_n 2, 1) := by decide +kernel
theorem dX8_book_35 : decode cX8_book 35 = .ok (.aload_n 0, 1) := by decide +kernel
theorem dX8_book_36 : decode cX8_book 36 = .ok (.getfield 59, 3) := by decide +kernel
theorem dX8_book_39 : decode cX8_book 39 = .ok (.if_icmp .ge 81, 3) := by decide +kernel
theorem dX8_book_42 : decode cX8_book 42 = .ok (.aload_n 0, 1) := by decide +kernel
theorem dX8_book_43 : decode cX8_book 43 = .ok (.getfield 18, 3) := by decide +kernel
theorem dX8_book_46 : decode cX8_book 46 = .ok (.iload_n 2, 1) := by decide +kernel
theorem dX8_book_47 : decode cX8_book 47 = .ok (.aaload, 1) := by decide +kernel
theorem dX8_book_48 : decode cX8_book 48 = .ok (.getfield 108, 3) := by decide +kernel
theorem dX8_book_51 : decode cX8_book 51 = .ok (.iload_n 1, 1) := by decide +kernel
theorem dX8_book_52 : decode cX8_book 52 = .ok (.iaload, 1) := by decide +kernel
theorem dX8_book_53 : decode cX8_book 53 = .ok (.ifCond .le 61, 3) := by decide +kernel
theorem dX8_book_56 : decode cX8_book 56 = .ok (.aload_n 0, 1) := by decide +kernel
theorem dX8_book_57 : decode cX8_book 57 = .ok (.getfield 38, 3) := by decide +kernel
theorem dX8_book_60 : decode cX8_book 60 = .ok (.invokevirtual 146, 3) := by decide +kernel
theorem dX8_book_63 : decode cX8_book 63 = .ok (.ifCond .eq 51, 3) := by decide +kernel
theorem dX8_book_66 : decode cX8_book 66 = .ok (.aload_n 0, 1) := by decide +kernel
theorem dX8_book_67 : decode cX8_book 67 = .ok (.aload_n 0, 1) := by decide +kernel
theorem dX8_book_68 : decode cX8_book 68 = .ok (.getfield 24, 3) := by decide +kernel
theorem dX8_book_71 : decode cX8_book 71 = .ok (.iload_n 1, 1) := by decide +kernel
theorem dX8_book_72 : decode cX8_book 72 = .ok (.aaload, 1) := by decide +kernel
theorem dX8_book_73 : decode cX8_book 73 = .ok (.aload_n 0, 1) := by decide +kernel
theorem dX8_book_74 : decode cX8_book 74 = .ok (.getfield 18, 3) := by decide +kernel
theorem dX8_book_77 : decode cX8_book 77 = .ok (.iload_n 2, 1) := by decide +kernel
theorem dX8_book_78 : decode cX8_book 78 = .ok (.aaload, 1) := by decide +kernel
theorem dX8_book_79 : decode cX8_book 79 = .ok (.invokevirtual 112, 3) := by decide +kernel
theorem dX8_book_82 : decode cX8_book 82 = .ok (.iconst 1, 1) := by decide +kernel
theorem dX8_book_83 : decode cX8_book 83 = .ok (.if_icmp .ne 31, 3) := by decide +kernel
theorem dX8_book_86 : decode cX8_book 86 = .ok (.aload_n 0, 1) := by decide +kernel
theorem dX8_book_87 : decode cX8_book 87 = .ok (.getfield 38, 3) := by decide +kernel
theorem dX8_book_90 : decode cX8_book 90 = .ok (.iload_n 2, 1) := by decide +kernel
theorem dX8_book_91 : decode cX8_book 91 = .ok (.aload_n 0, 1) := by decide +kernel
theorem dX8_book_92 : decode cX8_book 92 = .ok (.getfield 18, 3) := by decide +kernel
theorem dX8_book_95 : decode cX8_book 95 = .ok (.aload_n 0, 1) := by decide +kernel
theorem dX8_book_96 : decode cX8_book 96 = .ok (.getfield 18, 3) := by decide +kernel
theorem dX8_book_99 : decode cX8_book 99 = .ok (.iload_n 2, 1) := by decide +kernel
theorem dX8_book_100 : decode cX8_book 100 = .ok (.aaload, 1) := by decide +kernel
theorem dX8_book_101 : decode cX8_book 101 = .ok (.getfield 108, 3) := by decide +kernel
theorem dX8_book_104 : decode cX8_book 104 = .ok (.iload_n 1, 1) := by decide +kernel
theorem dX8_book_105 : decode cX8_book 105 = .ok (.iaload, 1) := by decide +kernel
theorem dX8_book_106 : decode cX8_book 106 = .ok (.invokevirtual 150, 3) := by decide +kernel
theorem dX8_book_109 : decode cX8_book 109 = .ok (.aload_n 0, 1) := by decide +kernel
theorem dX8_book_110 : decode cX8_book 110 = .ok (.iload_n 2, 1) := by decide +kernel
theorem dX8_book_111 : decode cX8_book 111 = .ok (.invokevirtual 154, 3) := by decide +kernel
theorem dX8_book_114 : decode cX8_book 114 = .ok (.iinc 2 1, 3) := by decide +kernel
theorem dX8_book_117 : decode cX8_book 117 = .ok (.goto (-83), 3) := by decide +kernel
theorem dX8_book_120 : decode cX8_book 120 = .ok (.aload_n 0, 1) := by decide +kernel
theorem dX8_book_121 : decode cX8_book 121 = .ok (.getfield 38, 3) := by decide +kernel
theorem dX8_book_124 : decode cX8_book 124 = .ok (.aload_n 0, 1) := by decide +kernel
theorem dX8_book_125 : decode cX8_book 125 = .ok (.getfield 24, 3) := by decide +kernel
theorem dX8_book_128 : decode cX8_book 128 = .ok (.iload_n 1, 1) := by decide +kernel
theorem dX8_book_129 : decode cX8_book 129 = .ok (.aaload, 1) := by decide +kernel
theorem dX8_book_130 : decode cX8_book 130 = .ok (.invokevirtual 157, 3) := by decide +kernel
theorem dX8_book_133 : decode cX8_book 133 = .ok (.aload_n 0, 1) := by decide +kernel
theorem dX8_book_134 : decode cX8_book 134 = .ok (.iload_n 1, 1) := by decide +kernel
theorem dX8_book_135 : decode cX8_book 135 = .ok (.invokevirtual 160, 3) := by decide +kernel
theorem dX8_book_138 : decode cX8_book 138 = .ok (.ireturn, 1) := by decide +kernel
theorem dX8_shared_0 : decode cX8_shared 0 = .ok (.aload_n 0, 1) := by decide +kernel
theorem dX8_shared_1 : decode cX8_shared 1 = .ok (.iload_n 1, 1) := by decide +kernel
theorem dX8_shared_2 : decode cX8_shared 2 = .ok (.invokevirtual 101, 3) := by decide +kernel
theorem dX8_shared_5 : decode cX8_shared 5 = .ok (.ifCond .eq 19, 3) := by decide +kernel
theorem dX8_shared_8 : decode cX8_shared 8 = .ok (.iload_n 2, 1) := by decide +kernel
theorem dX8_shared_9 : decode cX8_shared 9 = .ok (.invokestatic 87, 3) := by decide +kernel
theorem dX8_shared_12 : decode cX8_shared 12 = .ok (.ifCond .eq 12, 3) := by decide +kernel
theorem dX8_shared_15 : decode cX8_shared 15 = .ok (.iload_n 3, 1) := by decide +kernel
theorem dX8_shared_16 : decode cX8_shared 16 = .ok (.iconst 0, 1) := by decide +kernel
theorem dX8_shared_17 : decode cX8_shared 17 = .ok (.iconst 3, 1) := by decide +kernel
theorem dX8_shared_18 : decode cX8_shared 18 = .ok (.invokestatic 62, 3) := by decide +kernel
theorem dX8_shared_21 : decode cX8_shared 21 = .ok (.ifCond .ne 13, 3) := by decide +kernel
theorem dX8_shared_24 : decode cX8_shared 24 = .ok (.new 207, 3) := by decide +kernel
theorem dX8_shared_27 : decode cX8_shared 27 = .ok (.dup, 1) := by decide +kernel
theorem dX8_shared_28 : decode cX8_shared 28 = .ok (.ldc 209, 2) := by decide +kernel
theorem dX8_shared_30 : decode cX8_shared 30 = .ok (.invokespecial 211, 3) := by decide +kernel
theorem dX8_shared_33 : decode cX8_shared 33 = .ok (.athrow, 1) := by decide +kernel
theorem dX8_shared_34 : decode cX8_shared 34 = .ok (.aload_n 0, 1) := by decide +kernel
theorem dX8_shared_35 : decode cX8_shared 35 = .ok (.getfield 24, 3) := by decide +kernel
theorem dX8_shared_38 : decode cX8_shared 38 = .ok (.iload_n 1, 1) := by decide +kernel
theorem dX8_shared_39 : decode cX8_shared 39 = .ok (.aaload, 1) := by decide +kernel
theorem dX8_shared_40 : decode cX8_shared 40 = .ok (.getfield 170, 3) := by decide +kernel
theorem dX8_shared_43 : decode cX8_shared 43 = .ok (.iload_n 2, 1) := by decide +kernel
theorem dX8_shared_44 : decode cX8_shared 44 = .ok (.iaload, 1) := by decide +kernel
theorem dX8_shared_45 : decode cX8_shared 45 = .ok (.iconst (-1), 1) := by decide +kernel
theorem dX8_shared_46 : decode cX8_shared 46 = .ok (.if_icmp .ne 13, 3) := by decide +kernel
theorem dX8_shared_49 : decode cX8_shared 49 = .ok (.new 207, 3) := by decide +kernel
theorem dX8_shared_52 : decode cX8_shared 52 = .ok (.dup, 1) := by decide +kernel
theorem dX8_shared_53 : decode cX8_shared 53 = .ok (.ldc 214, 2) := by decide +kernel
theorem dX8_shared_55 : decode cX8_shared 55 = .ok (.invokespecial 211, 3) := by decide +kernel
theorem dX8_shared_58 : decode cX8_shared 58 = .ok (.athrow, 1) := by decide +kernel
theorem dX8_shared_59 : decode cX8_shared 59 = .ok (.aload_n 0, 1) := by decide +kernel
theorem dX8_shared_60 : decode cX8_shared 60 = .ok (.getfield 24, 3) := by decide +kernel
theorem dX8_shared_63 : decode cX8_shared 63 = .ok (.iload_n 1, 1) := by decide +kernel
theorem dX8_shared_64 : decode cX8_shared 64 = .ok (.aaload, 1) := by decide +kernel
theorem dX8_shared_65 : decode cX8_shared 65 = .ok (.iload_n 2, 1) := by decide +kernel
theorem dX8_shared_66 : decode cX8_shared 66 = .ok (.iload_n 3, 1) := by decide +kernel
theorem dX8_shared_67 : decode cX8_shared 67 = .ok (.invokevirtual 216, 3) := by decide +kernel
theorem dX8_shared_70 : decode cX8_shared 70 = .ok (.ireturn, 1) := by decide +kernel
theorem dX8_sum_0 : decode cX8_sum 0 = .ok (.iload_n 1, 1) := by decide +kernel
theorem dX8_sum_1 : decode cX8_sum 1 = .ok (.iconst 0, 1) := by decide +kernel
theorem dX8_sum_2 : decode cX8_sum 2 = .ok (.iconst 4, 1) := by decide +kernel
theorem dX8_sum_3 : decode cX8_sum 3 = .ok (.invokestatic 62, 3) := by decide +kernel
theorem dX8_sum_6 : decode cX8_sum 6 = .ok (.ifCond .ne 5, 3) := by decide +kernel
theorem dX8_sum_9 : decode cX8_sum 9 = .ok (.iconst (-1), 1) := by decide +kernel
theorem dX8_sum_10 : decode cX8_sum 10 = .ok (.ireturn, 1) := by decide +kernel
theorem dX8_sum_11 : decode cX8_sum 11 = .ok (.iconst 0, 1) := by decide +kernel
theorem dX8_sum_12 : decode cX8_sum 12 = .ok (.istore_n 2, 1) := by decide +kernel
theorem dX8_sum_13 : decode cX8_sum 13 = .ok (.iconst 0, 1) := by decide +kernel
theorem dX8_sum_14 : decode cX8_sum 14 = .ok (.istore_n 3, 1) := by decide +kernel
theorem dX8_sum_15 : decode cX8_sum 15 = .ok (.iload_n 3, 1) := by decide +kernel
theorem dX8_sum_16 : decode cX8_sum 16 = .ok (.aload_n 0, 1) := by decide +kernel
theorem dX8_sum_17 : decode cX8_sum 17 = .ok (.getfield 80, 3) := by decide +kernel
theorem dX8_sum_20 : decode cX8_sum 20 = .ok (.if_icmp .ge 65, 3) := by decide +kernel
theorem dX8_sum_23 : decode cX8_sum 23 = .ok (.iconst 0, 1) := by decide +kernel
theorem dX8_sum_24 : decode cX8_sum 24 = .ok (.istore 4, 2) := by decide +kernel
theorem dX8_sum_26 : decode cX8_sum 26 = .ok (.iload 4, 2) := by decide +kernel
theorem dX8_sum_28 : decode cX8_sum 28 = .ok (.bipush 14, 2) := by decide +kernel
theorem dX8_sum_30 : decode cX8_sum 30 = .ok (.if_icmp .ge 49, 3) := by decide +kernel
theorem dX8_sum_33 : decode cX8_sum 33 = .ok (.aload_n 0, 1) := by decide +kernel
theorem dX8_sum_34 : decode cX8_sum 34 = .ok (.getfield 24, 3) := by decide +kernel
theorem dX8_sum_37 : decode cX8_sum 37 = .ok (.iload_n 3, 1) := by decide +kernel
theorem dX8_sum_38 : decode cX8_sum 38 = .ok (.aaload, 1) := by decide +kernel
theorem dX8_sum_39 : decode cX8_sum 39 = .ok (.getfield 170, 3) := by decide +kernel
theorem dX8_sum_42 : decode cX8_sum 42 = .ok (.iload 4, 2) := by decide +kernel
theorem dX8_sum_44 : decode cX8_sum 44 = .ok (.iaload, 1) := by decide +kernel
theorem dX8_sum_45 : decode cX8_sum 45 = .ok (.iconst (-1), 1) := by decide +kernel
theorem dX8_sum_46 : decode cX8_sum 46 = .ok (.if_icmp .eq 27, 3) := by decide +kernel
theorem dX8_sum_49 : decode cX8_sum 49 = .ok (.iload_n 2, 1) := by decide +kernel
theorem dX8_sum_50 : decode cX8_sum 50 = .ok (.iload_n 1, 1) := by decide +kernel
theorem dX8_sum_51 : decode cX8_sum 51 = .ok (.iconst 4, 1) := by decide +kernel
theorem dX8_sum_52 : decode cX8_sum 52 = .ok (.if_icmp .ne 7, 3) := by decide +kernel
theorem dX8_sum_55 : decode cX8_sum 55 = .ok (.iconst 1, 1) := by decide +kernel
theorem dX8_sum_56 : decode cX8_sum 56 = .ok (.goto 15, 3) := by decide +kernel
theorem dX8_sum_59 : decode cX8_sum 59 = .ok (.aload_n 0, 1) := by decide +kernel
theorem dX8_sum_60 : decode cX8_sum 60 = .ok (.getfield 24, 3) := by decide +kernel
theorem dX8_sum_63 : decode cX8_sum 63 = .ok (.iload_n 3, 1) := by decide +kernel
theorem dX8_sum_64 : decode cX8_sum 64 = .ok (.aaload, 1) := by decide +kernel
theorem dX8_sum_65 : decode cX8_sum 65 = .ok (.iload 4, 2) := by decide +kernel
theorem dX8_sum_67 : decode cX8_sum 67 = .ok (.iload_n 1, 1) := by decide +kernel
theorem dX8_sum_68 : decode cX8_sum 68 = .ok (.invokevirtual 216, 3) := by decide +kernel
theorem dX8_sum_71 : decode cX8_sum 71 = .ok (.iadd, 1) := by decide +kernel
theorem dX8_sum_72 : decode cX8_sum 72 = .ok (.istore_n 2, 1) := by decide +kernel
theorem dX8_sum_73 : decode cX8_sum 73 = .ok (.iinc 4 1, 3) := by decide +kernel
theorem dX8_sum_76 : decode cX8_sum 76 = .ok (.goto (-50), 3) := by decide +kernel
theorem dX8_sum_79 : decode cX8_sum 79 = .ok (.iinc 3 1, 3) := by decide +kernel
theorem dX8_sum_82 : decode cX8_sum 82 = .ok (.goto (-67), 3) := by decide +kernel
theorem dX8_sum_85 : decode cX8_sum 85 = .ok (.iload_n 2, 1) := by decide +kernel
theorem dX8_sum_86 : decode cX8_sum 86 = .ok (.ireturn, 1) := by decide +kernel
theorem dX8_keeps_0 : decode cX8_keeps 0 = .ok (.aload_n 0, 1) := by decide +kernel
theorem dX8_keeps_1 : decode cX8_keeps 1 = .ok (.iload_n 1, 1) := by decide +kernel
theorem dX8_keeps_2 : decode cX8_keeps 2 = .ok (.invokevirtual 98, 3) := by decide +kernel
theorem dX8_keeps_5 : decode cX8_keeps 5 = .ok (.ifCond .ne 13, 3) := by decide +kernel
theorem dX8_keeps_8 : decode cX8_keeps 8 = .ok (.new 207, 3) := by decide +kernel
theorem dX8_keeps_11 : decode cX8_keeps 11 = .ok (.dup, 1) := by decide +kernel
theorem dX8_keeps_12 : decode cX8_keeps 12 = .ok (.ldc 219, 2) := by decide +kernel
theorem dX8_keeps_14 : decode cX8_keeps 14 = .ok (.invokespecial 211, 3) := by decide +kernel
theorem dX8_keeps_17 : decode cX8_keeps 17 = .ok (.athrow, 1) := by decide +kernel
theorem dX8_keeps_18 : decode cX8_keeps 18 = .ok (.iconst 0, 1) := by decide +kernel
theorem dX8_keeps_19 : decode cX8_keeps 19 = .ok (.istore_n 2, 1) := by decide +kernel
theorem dX8_keeps_20 : decode cX8_keeps 20 = .ok (.iconst 0, 1) := by decide +kernel
theorem dX8_keeps_21 : decode cX8_keeps 21 = .ok (.istore_n 3, 1) := by decide +kernel
theorem dX8_keeps_22 : decode cX8_keeps 22 = .ok (.iload_n 3, 1) := by decide +kernel
theorem dX8_keeps_23 : decode cX8_keeps 23 = .ok (.aload_n 0, 1) := by decide +kernel
theorem dX8_keeps_24 : decode cX8_keeps 24 = .ok (.getfield 80, 3) := by decide +kernel
theorem dX8_keeps_27 : decode cX8_keeps 27 = .ok (.if_icmp .ge 72, 3) := by decide +kernel
theorem dX8_keeps_30 : decode cX8_keeps 30 = .ok (.iconst 0, 1) := by decide +kernel
theorem dX8_keeps_31 : decode cX8_keeps 31 = .ok (.istore 4, 2) := by decide +kernel
theorem dX8_keeps_33 : decode cX8_keeps 33 = .ok (.iload 4, 2) := by decide +kernel
theorem dX8_keeps_35 : decode cX8_keeps 35 = .ok (.bipush 14, 2) := by decide +kernel
theorem dX8_keeps_37 : decode cX8_keeps 37 = .ok (.if_icmp .ge 56, 3) := by decide +kernel
theorem dX8_keeps_40 : decode cX8_keeps 40 = .ok (.aload_n 0, 1) := by decide +kernel
theorem dX8_keeps_41 : decode cX8_keeps 41 = .ok (.getfield 24, 3) := by decide +kernel
theorem dX8_keeps_44 : decode cX8_keeps 44 = .ok (.iload_n 3, 1) := by decide +kernel
theorem dX8_keeps_45 : decode cX8_keeps 45 = .ok (.aaload, 1) := by decide +kernel
theorem dX8_keeps_46 : decode cX8_keeps 46 = .ok (.getfield 163, 3) := by decide +kernel
theorem dX8_keeps_49 : decode cX8_keeps 49 = .ok (.iload 4, 2) := by decide +kernel
theorem dX8_keeps_51 : decode cX8_keeps 51 = .ok (.iaload, 1) := by decide +kernel
theorem dX8_keeps_52 : decode cX8_keeps 52 = .ok (.iload_n 1, 1) := by decide +kernel
theorem dX8_keeps_53 : decode cX8_keeps 53 = .ok (.if_icmp .ne 34, 3) := by decide +kernel
theorem dX8_keeps_56 : decode cX8_keeps 56 = .ok (.aload_n 0, 1) := by decide +kernel
theorem dX8_keeps_57 : decode cX8_keeps 57 = .ok (.getfield 24, 3) := by decide +kernel
theorem dX8_keeps_60 : decode cX8_keeps 60 = .ok (.iload_n 3, 1) := by decide +kernel
theorem dX8_keeps_61 : decode cX8_keeps 61 = .ok (.aaload, 1) := by decide +kernel
theorem dX8_keeps_62 : decode cX8_keeps 62 = .ok (.getfield 170, 3) := by decide +kernel
theorem dX8_keeps_65 : decode cX8_keeps 65 = .ok (.iload 4, 2) := by decide +kernel
theorem dX8_keeps_67 : decode cX8_keeps 67 = .ok (.iaload, 1) := by decide +kernel
theorem dX8_keeps_68 : decode cX8_keeps 68 = .ok (.iconst (-1), 1) := by decide +kernel
theorem dX8_keeps_69 : decode cX8_keeps 69 = .ok (.if_icmp .eq 18, 3) := by decide +kernel
theorem dX8_keeps_72 : decode cX8_keeps 72 = .ok (.iload_n 2, 1) := by decide +kernel
theorem dX8_keeps_73 : decode cX8_keeps 73 = .ok (.aload_n 0, 1) := by decide +kernel
theorem dX8_keeps_74 : decode cX8_keeps 74 = .ok (.getfield 24, 3) := by decide +kernel
theorem dX8_keeps_77 : decode cX8_keeps 77 = .ok (.iload_n 3, 1) := by decide +kernel
theorem dX8_keeps_78 : decode cX8_keeps 78 = .ok (.aaload, 1) := by decide +kernel
theorem dX8_keeps_79 : decode cX8_keeps 79 = .ok (.iload 4, 2) := by decide +kernel
theorem dX8_keeps_81 : decode cX8_keeps 81 = .ok (.iconst 2, 1) := by decide +kernel
theorem dX8_keeps_82 : decode cX8_keeps 82 = .ok (.invokevirtual 216, 3) := by decide +kernel
theorem dX8_keeps_85 : decode cX8_keeps 85 = .ok (.iadd, 1) := by decide +kernel
theorem dX8_keeps_86 : decode cX8_keeps 86 = .ok (.istore_n 2, 1) := by decide +kernel
theorem dX8_keeps_87 : decode cX8_keeps 87 = .ok (.iinc 4 1, 3) := by decide +kernel
theorem dX8_keeps_90 : decode cX8_keeps 90 = .ok (.goto (-57), 3) := by decide +kernel
theorem dX8_keeps_93 : decode cX8_keeps 93 = .ok (.iinc 3 1, 3) := by decide +kernel
theorem dX8_keeps_96 : decode cX8_keeps 96 = .ok (.goto (-74), 3) := by decide +kernel
theorem dX8_keeps_99 : decode cX8_keeps 99 = .ok (.iload_n 2, 1) := by decide +kernel
theorem dX8_keeps_100 : decode cX8_keeps 100 = .ok (.ireturn, 1) := by decide +kernel
theorem dX7_readShare_0 : decode cX7_readShare 0 = .ok (.aload_n 0, 1) := by decide +kernel
theorem dX7_readShare_1 : decode cX7_readShare 1 = .ok (.getfield 12, 3) := by decide +kernel
theorem dX7_readShare_4 : decode cX7_readShare 4 = .ok (.getfield 112, 3) := by decide +kernel
theorem dX7_readShare_7 : decode cX7_readShare 7 = .ok (.istore_n 1, 1) := by decide +kernel
theorem dX7_readShare_8 : decode cX7_readShare 8 = .ok (.iload_n 1, 1) := by decide +kernel
theorem dX7_readShare_9 : decode cX7_readShare 9 = .ok (.iconst 3, 1) := by decide +kernel
theorem dX7_readShare_10 : decode cX7_readShare 10 = .ok (.if_icmp .lt 9, 3) := by decide +kernel
theorem dX7_readShare_13 : decode cX7_readShare 13 = .ok (.aload_n 0, 1) := by decide +kernel
theorem dX7_readShare_14 : decode cX7_readShare 14 = .ok (.iconst 4, 1) := by decide +kernel
theorem dX7_readShare_15 : decode cX7_readShare 15 = .ok (.invokevirtual 95, 3) := by decide +kernel
theorem dX7_readShare_18 : decode cX7_readShare 18 = .ok (.ireturn, 1) := by decide +kernel
theorem dX7_readShare_19 : decode cX7_readShare 19 = .ok (.aload_n 0, 1) := by decide +kernel
theorem dX7_readShare_20 : decode cX7_readShare 20 = .ok (.iconst 0, 1) := by decide +kernel
theorem dX7_readShare_21 : decode cX7_readShare 21 = .ok (.bipush 100, 2) := by decide +kernel
theorem dX7_readShare_23 : decode cX7_readShare 23 = .ok (.invokevirtual 100, 3) := by decide +kernel
theorem dX7_readShare_26 : decode cX7_readShare 26 = .ok (.ifCond .ne 5, 3) := by decide +kernel
theorem dX7_readShare_29 : decode cX7_readShare 29 = .ok (.iconst 0, 1) := by decide +kernel
theorem dX7_readShare_30 : decode cX7_readShare 30 = .ok (.ireturn, 1) := by decide +kernel
theorem dX7_readShare_31 : decode cX7_readShare 31 = .ok (.aload_n 0, 1) := by decide +kernel
theorem dX7_readShare_32 : decode cX7_readShare 32 = .ok (.getfield 12, 3) := by decide +kernel
theorem dX7_readShare_35 : decode cX7_readShare 35 = .ok (.getfield 115, 3) := by decide +kernel
theorem dX7_readShare_38 : decode cX7_readShare 38 = .ok (.iload_n 1, 1) := by decide +kernel
theorem dX7_readShare_39 : decode cX7_readShare 39 = .ok (.aload_n 0, 1) := by decide +kernel
theorem dX7_readShare_40 : decode cX7_readShare 40 = .ok (.getfield 104, 3) := by decide +kernel
theorem dX7_readShare_43 : decode cX7_readShare 43 = .ok (.iastore, 1) := by decide +kernel
theorem dX7_readShare_44 : decode cX7_readShare 44 = .ok (.iload_n 1, 1) := by decide +kernel
theorem dX7_readShare_45 : decode cX7_readShare 45 = .ok (.ifCond .le 19, 3) := by decide +kernel
theorem dX7_readShare_48 : decode cX7_readShare 48 = .ok (.aload_n 0, 1) := by decide +kernel
theorem dX7_readShare_49 : decode cX7_readShare 49 = .ok (.getfield 12, 3) := by decide +kernel
theorem dX7_readShare_52 : decode cX7_readShare 52 = .ok (.getfield 118, 3) := by decide +kernel
theorem dX7_readShare_55 : decode cX7_readShare 55 = .ok (.iload_n 1, 1) := by decide +kernel
theorem dX7_readShare_56 : decode cX7_readShare 56 = .ok (.iconst 1, 1) := by decide +kernel
theorem dX7_readShare_57 : decode cX7_readShare 57 = .ok (.isub, 1) := by decide +kernel
theorem dX7_readShare_58 : decode cX7_readShare 58 = .ok (.iaload, 1) := by decide +kernel
theorem dX7_readShare_59 : decode cX7_readShare 59 = .ok (.iconst 1, 1) := by decide +kernel
theorem dX7_readShare_60 : decode cX7_readShare 60 = .ok (.iadd, 1) := by decide +kernel
theorem dX7_readShare_61 : decode cX7_readShare 61 = .ok (.goto 4, 3) := by decide +kernel
theorem dX7_readShare_64 : decode cX7_readShare 64 = .ok (.iconst 0, 1) := by decide +kernel
theorem dX7_readShare_65 : decode cX7_readShare 65 = .ok (.istore_n 2, 1) := by decide +kernel
theorem dX7_readShare_66 : decode cX7_readShare 66 = .ok (.aload_n 0, 1) := by decide +kernel
theorem dX7_readShare_67 : decode cX7_readShare 67 = .ok (.ldc 121, 2) := by decide +kernel
theorem dX7_readShare_69 : decode cX7_readShare 69 = .ok (.invokevirtual 122, 3) := by decide +kernel
theorem dX7_readShare_72 : decode cX7_readShare 72 = .ok (.ifCond .eq 13, 3) := by decide +kernel
theorem dX7_readShare_75 : decode cX7_readShare 75 = .ok (.aload_n 0, 1) := by decide +kernel
theorem dX7_readShare_76 : decode cX7_readShare 76 = .ok (.iload_n 2, 1) := by decide +kernel
theorem dX7_readShare_77 : decode cX7_readShare 77 = .ok (.ldc 99, 2) := by decide +kernel
theorem dX7_readShare_79 : decode cX7_readShare 79 = .ok (.invokevirtual 100, 3) := by decide +kernel
theorem dX7_readShare_82 : decode cX7_readShare 82 = .ok (.ifCond .ne 5, 3) := by decide +kernel
theorem dX7_readShare_85 : decode cX7_readShare 85 = .ok (.iconst 0, 1) := by decide +kernel
theorem dX7_readShare_86 : decode cX7_readShare 86 = .ok (.ireturn, 1) := by decide +kernel
theorem dX7_readShare_87 : decode cX7_readShare 87 = .ok (.aload_n 0, 1) := by decide +kernel
theorem dX7_readShare_88 : decode cX7_readShare 88 = .ok (.getfield 12, 3) := by decide +kernel
theorem dX7_readShare_91 : decode cX7_readShare 91 = .ok (.getfield 118, 3) := by decide +kernel
theorem dX7_readShare_94 : decode cX7_readShare 94 = .ok (.iload_n 1, 1) := by decide +kernel
theorem dX7_readShare_95 : decode cX7_readShare 95 = .ok (.aload_n 0, 1) := by decide +kernel
theorem dX7_readShare_96 : decode cX7_readShare 96 = .ok (.getfield 104, 3) := by decide +kernel
theorem dX7_readShare_99 : decode cX7_readShare 99 = .ok (.iastore, 1) := by decide +kernel
theorem dX7_readShare_100 : decode cX7_readShare 100 = .ok (.aload_n 0, 1) := by decide +kernel
theorem dX7_readShare_101 : decode cX7_readShare 101 = .ok (.getfield 12, 3) := by decide +kernel
theorem dX7_readShare_104 : decode cX7_readShare 104 = .ok (.iload_n 1, 1) := by decide +kernel
theorem dX7_readShare_105 : decode cX7_readShare 105 = .ok (.iconst 1, 1) := by decide +kernel
theorem dX7_readShare_106 : decode cX7_readShare 106 = .ok (.iadd, 1) := by decide +kernel
theorem dX7_readShare_107 : decode cX7_readShare 107 = .ok (.putfield 112, 3) := by decide +kernel
theorem dX7_readShare_110 : decode cX7_readShare 110 = .ok (.aload_n 0, 1) := by decide +kernel
theorem dX7_readShare_111 : decode cX7_readShare 111 = .ok (.invokevirtual 109, 3) := by decide +kernel
theorem dX7_readShare_114 : decode cX7_readShare 114 = .ok (.ireturn, 1) := by decide +kernel
theorem dX7_readSubsidy_0 : decode cX7_readSubsidy 0 = .ok (.aload_n 0, 1) := by decide +kernel
theorem dX7_readSubsidy_1 : decode cX7_readSubsidy 1 = .ok (.getfield 59, 3) := by decide +kernel
theorem dX7_readSubsidy_4 : decode cX7_readSubsidy 4 = .ok (.ifCond .eq 9, 3) := by decide +kernel
theorem dX7_readSubsidy_7 : decode cX7_readSubsidy 7 = .ok (.aload_n 0, 1) := by decide +kernel
theorem dX7_readSubsidy_8 : decode cX7_readSubsidy 8 = .ok (.iconst 4, 1) := by decide +kernel
theorem dX7_readSubsidy_9 : decode cX7_readSubsidy 9 = .ok (.invokevirtual 95, 3) := by decide +kernel
theorem dX7_readSubsidy_12 : decode cX7_readSubsidy 12 = .ok (.ireturn, 1) := by decide +kernel
theorem dX7_readSubsidy_13 : decode cX7_readSubsidy 13 = .ok (.aload_n 0, 1) := by decide +kernel
theorem dX7_readSubsidy_14 : decode cX7_readSubsidy 14 = .ok (.iconst 1, 1) := by decide +kernel
theorem dX7_readSubsidy_15 : decode cX7_readSubsidy 15 = .ok (.putfield 59, 3) := by decide +kernel
theorem dX7_readSubsidy_18 : decode cX7_readSubsidy 18 = .ok (.aload_n 0, 1) := by decide +kernel
theorem dX7_readSubsidy_19 : decode cX7_readSubsidy 19 = .ok (.iconst 0, 1) := by decide +kernel
theorem dX7_readSubsidy_20 : decode cX7_readSubsidy 20 = .ok (.bipush 100, 2) := by decide +kernel
theorem dX7_readSubsidy_22 : decode cX7_readSubsidy 22 = .ok (.invokevirtual 100, 3) := by decide +kernel
theorem dX7_readSubsidy_25 : decode cX7_readSubsidy 25 = .ok (.ifCond .ne 5, 3) := by decide +kernel
theorem dX7_readSubsidy_28 : decode cX7_readSubsidy 28 = .ok (.iconst 0, 1) := by decide +kernel
theorem dX7_readSubsidy_29 : decode cX7_readSubsidy 29 = .ok (.ireturn, 1) := by decide +kernel
theorem dX7_readSubsidy_30 : decode cX7_readSubsidy 30 = .ok (.aload_n 0, 1) := by decide +kernel
theorem dX7_readSubsidy_31 : decode cX7_readSubsidy 31 = .ok (.getfield 12, 3) := by decide +kernel
theorem dX7_readSubsidy_34 : decode cX7_readSubsidy 34 = .ok (.aload_n 0, 1) := by decide +kernel
theorem dX7_readSubsidy_35 : decode cX7_readSubsidy 35 = .ok (.getfield 104, 3) := by decide +kernel
theorem dX7_readSubsidy_38 : decode cX7_readSubsidy 38 = .ok (.putfield 125, 3) := by decide +kernel
theorem dX7_readSubsidy_41 : decode cX7_readSubsidy 41 = .ok (.aload_n 0, 1) := by decide +kernel
theorem dX7_readSubsidy_42 : decode cX7_readSubsidy 42 = .ok (.ldc 127, 2) := by decide +kernel
theorem dX7_readSubsidy_44 : decode cX7_readSubsidy 44 = .ok (.invokevirtual 122, 3) := by decide +kernel
theorem dX7_readSubsidy_47 : decode cX7_readSubsidy 47 = .ok (.ifCond .eq 13, 3) := by decide +kernel
theorem dX7_readSubsidy_50 : decode cX7_readSubsidy 50 = .ok (.aload_n 0, 1) := by decide +kernel
theorem dX7_readSubsidy_51 : decode cX7_readSubsidy 51 = .ok (.iconst 0, 1) := by decide +kernel
theorem dX7_readSubsidy_52 : decode cX7_readSubsidy 52 = .ok (.ldc 99, 2) := by decide +kernel
theorem dX7_readSubsidy_54 : decode cX7_readSubsidy 54 = .ok (.invokevirtual 100, 3) := by decide +kernel
theorem dX7_readSubsidy_57 : decode cX7_readSubsidy 57 = .ok (.ifCond .ne 5, 3) := by decide +kernel
theorem dX7_readSubsidy_60 : decode cX7_readSubsidy 60 = .ok (.iconst 0, 1) := by decide +kernel
theorem dX7_readSubsidy_61 : decode cX7_readSubsidy 61 = .ok (.ireturn, 1) := by decide +kernel
theorem dX7_readSubsidy_62 : decode cX7_readSubsidy 62 = .ok (.aload_n 0, 1) := by decide +kernel
theorem dX7_readSubsidy_63 : decode cX7_readSubsidy 63 = .ok (.getfield 12, 3) := by decide +kernel
theorem dX7_readSubsidy_66 : decode cX7_readSubsidy 66 = .ok (.aload_n 0, 1) := by decide +kernel
theorem dX7_readSubsidy_67 : decode cX7_readSubsidy 67 = .ok (.getfield 104, 3) := by decide +kernel
theorem dX7_readSubsidy_70 : decode cX7_readSubsidy 70 = .ok (.putfield 129, 3) := by decide +kernel
theorem dX7_readSubsidy_73 : decode cX7_readSubsidy 73 = .ok (.aload_n 0, 1) := by decide +kernel
theorem dX7_readSubsidy_74 : decode cX7_readSubsidy 74 = .ok (.invokevirtual 109, 3) := by decide +kernel
theorem dX7_readSubsidy_77 : decode cX7_readSubsidy 77 = .ok (.ireturn, 1) := by decide +kernel
theorem dX7_readTerm_0 : decode cX7_readTerm 0 = .ok (.aload_n 0, 1) := by decide +kernel
theorem dX7_readTerm_1 : decode cX7_readTerm 1 = .ok (.ldc 68, 2) := by decide +kernel
theorem dX7_readTerm_3 : decode cX7_readTerm 3 = .ok (.invokevirtual 70, 3) := by decide +kernel
theorem dX7_readTerm_6 : decode cX7_readTerm 6 = .ok (.ifCond .eq 8, 3) := by decide +kernel
theorem dX7_readTerm_9 : decode cX7_readTerm 9 = .ok (.aload_n 0, 1) := by decide +kernel
theorem dX7_readTerm_10 : decode cX7_readTerm 10 = .ok (.invokevirtual 74, 3) := by decide +kernel
theorem dX7_readTerm_13 : decode cX7_readTerm 13 = .ok (.ireturn, 1) := by decide +kernel
theorem dX7_readTerm_14 : decode cX7_readTerm 14 = .ok (.aload_n 0, 1) := by decide +kernel
theorem dX7_readTerm_15 : decode cX7_readTerm 15 = .ok (.ldc 77, 2) := by decide +kernel
theorem dX7_readTerm_17 : decode cX7_readTerm 17 = .ok (.invokevirtual 70, 3) := by decide +kernel
theorem dX7_readTerm_20 : decode cX7_readTerm 20 = .ok (.ifCond .eq 8, 3) := by decide +kernel
theorem dX7_readTerm_23 : decode cX7_readTerm 23 = .ok (.aload_n 0, 1) := by decide +kernel
theorem dX7_readTerm_24 : decode cX7_readTerm 24 = .ok (.invokevirtual 79, 3) := by decide +kernel
theorem dX7_readTerm_27 : decode cX7_readTerm 27 = .ok (.ireturn, 1) := by decide +kernel
theorem dX7_readTerm_28 : decode cX7_readTerm 28 = .ok (.aload_n 0, 1) := by decide +kernel
theorem dX7_readTerm_29 : decode cX7_readTerm 29 = .ok (.ldc 82, 2) := by decide +kernel
theorem dX7_readTerm_31 : decode cX7_readTerm 31 = .ok (.invokevirtual 70, 3) := by decide +kernel
theorem dX7_readTerm_34 : decode cX7_readTerm 34 = .ok (.ifCond .eq 8, 3) := by decide +kernel
theorem dX7_readTerm_37 : decode cX7_readTerm 37 = .ok (.aload_n 0, 1) := by decide +kernel
theorem dX7_readTerm_38 : decode cX7_readTerm 38 = .ok (.invokevirtual 84, 3) := by decide +kernel
theorem dX7_readTerm_41 : decode cX7_readTerm 41 = .ok (.ireturn, 1) := by decide +kernel
theorem dX7_readTerm_42 : decode cX7_readTerm 42 = .ok (.aload_n 0, 1) := by decide +kernel
theorem dX7_readTerm_43 : decode cX7_readTerm 43 = .ok (.ldc 87, 2) := by decide +kernel
theorem dX7_readTerm_45 : decode cX7_readTerm 45 = .ok (.invokevirtual 70, 3) := by decide +kernel
theorem dX7_readTerm_48 : decode cX7_readTerm 48 = .ok (.ifCond .eq 8, 3) := by decide +kernel
theorem dX7_readTerm_51 : decode cX7_readTerm 51 = .ok (.aload_n 0, 1) := by decide +kernel
theorem dX7_readTerm_52 : decode cX7_readTerm 52 = .ok (.invokevirtual 89, 3) := by decide +kernel
theorem dX7_readTerm_55 : decode cX7_readTerm 55 = .ok (.ireturn, 1) := by decide +kernel
theorem dX7_readTerm_56 : decode cX7_readTerm 56 = .ok (.aload_n 0, 1) := by decide +kernel
theorem dX7_readTerm_57 : decode cX7_readTerm 57 = .ok (.invokevirtual 92, 3) := by decide +kernel
theorem dX7_readTerm_60 : decode cX7_readTerm 60 = .ok (.ireturn, 1) := by decide +kernel
theorem dX7_readText_0 : decode cX7_readText 0 = .ok (.aload_n 0, 1) := by decide +kernel
theorem dX7_readText_1 : decode cX7_readText 1 = .ok (.aload_n 1, 1) := by decide +kernel
theorem dX7_readText_2 : decode cX7_readText 2 = .ok (.invokevirtual 25, 3) := by decide +kernel
theorem dX7_readText_5 : decode cX7_readText 5 = .ok (.iconst 0, 1) := by decide +kernel
theorem dX7_readText_6 : decode cX7_readText 6 = .ok (.istore_n 2, 1) := by decide +kernel
theorem dX7_readText_7 : decode cX7_readText 7 = .ok (.iload_n 2, 1) := by decide +kernel
theorem dX7_readText_8 : decode cX7_readText 8 = .ok (.sipush 200, 3) := by decide +kernel
theorem dX7_readText_11 : decode cX7_readText 11 = .ok (.if_icmp .gt 42, 3) := by decide +kernel
theorem dX7_readText_14 : decode cX7_readText 14 = .ok (.aload_n 0, 1) := by decide +kernel
theorem dX7_readText_15 : decode cX7_readText 15 = .ok (.invokevirtual 29, 3) := by decide +kernel
theorem dX7_readText_18 : decode cX7_readText 18 = .ok (.aload_n 0, 1) := by decide +kernel
theorem dX7_readText_19 : decode cX7_readText 19 = .ok (.getfield 32, 3) := by decide +kernel
theorem dX7_readText_22 : decode cX7_readText 22 = .ok (.iconst 4, 1) := by decide +kernel
theorem dX7_readText_23 : decode cX7_readText 23 = .ok (.if_icmp .ne 5, 3) := by decide +kernel
theorem dX7_readText_26 : decode cX7_readText 26 = .ok (.iconst 1, 1) := by decide +kernel
theorem dX7_readText_27 : decode cX7_readText 27 = .ok (.ireturn, 1) := by decide +kernel
theorem dX7_readText_28 : decode cX7_readText 28 = .ok (.aload_n 0, 1) := by decide +kernel
theorem dX7_readText_29 : decode cX7_readText 29 = .ok (.invokevirtual 36, 3) := by decide +kernel
theorem dX7_readText_32 : decode cX7_readText 32 = .ok (.ifCond .ne 5, 3) := by decide +kernel
theorem dX7_readText_35 : decode cX7_readText 35 = .ok (.iconst 0, 1) := by decide +kernel
theorem dX7_readText_36 : decode cX7_readText 36 = .ok (.ireturn, 1) := by decide +kernel
theorem dX7_readText_37 : decode cX7_readText 37 = .ok (.aload_n 0, 1) := by decide +kernel
theorem dX7_readText_38 : decode cX7_readText 38 = .ok (.dup, 1) := by decide +kernel
theorem dX7_readText_39 : decode cX7_readText 39 = .ok (.getfield 40, 3) := by decide +kernel
theorem dX7_readText_42 : decode cX7_readText 42 = .ok (.iconst 1, 1) := by decide +kernel
theorem dX7_readText_43 : decode cX7_readText 43 = .ok (.iadd, 1) := by decide +kernel
theorem dX7_readText_44 : decode cX7_readText 44 = .ok (.putfield 40, 3) := by decide +kernel
theorem dX7_readText_47 : decode cX7_readText 47 = .ok (.iinc 2 1, 3) := by decide +kernel
theorem dX7_readText_50 : decode cX7_readText 50 = .ok (.goto (-43), 3) := by decide +kernel
theorem dX7_readText_53 : decode cX7_readText 53 = .ok (.iconst 1, 1) := by decide +kernel
theorem dX7_readText_54 : decode cX7_readText 54 = .ok (.ireturn, 1) := by decide +kernel
theorem dX8_terms_0 : decode cX8_terms 0 = .ok (.sipush (-300), 3) := by decide +kernel
theorem dX8_terms_3 : decode cX8_terms 3 = .ok (.istore_n 2, 1) := by decide +kernel
theorem dX8_terms_4 : decode cX8_terms 4 = .ok (.aload_n 0, 1) := by decide +kernel
theorem dX8_terms_5 : decode cX8_terms 5 = .ok (.iload_n 1, 1) := by decide +kernel
theorem dX8_terms_6 : decode cX8_terms 6 = .ok (.invokevirtual 101, 3) := by decide +kernel
theorem dX8_terms_9 : decode cX8_terms 9 = .ok (.ifCond .eq 57, 3) := by decide +kernel
theorem dX8_terms_12 : decode cX8_terms 12 = .ok (.aload_n 0, 1) := by decide +kernel
theorem dX8_terms_13 : decode cX8_terms 13 = .ok (.getfield 45, 3) := by decide +kernel
theorem dX8_terms_16 : decode cX8_terms 16 = .ok (.aload_n 0, 1) := by decide +kernel
theorem dX8_terms_17 : decode cX8_terms 17 = .ok (.getfield 10, 3) := by decide +kernel
theorem dX8_terms_20 : decode cX8_terms 20 = .ok (.invokevirtual 180, 3) := by decide +kernel
theorem dX8_terms_23 : decode cX8_terms 23 = .ok (.ifCond .eq 33, 3) := by decide +kernel
theorem dX8_terms_26 : decode cX8_terms 26 = .ok (.aload_n 0, 1) := by decide +kernel
theorem dX8_terms_27 : decode cX8_terms 27 = .ok (.getfield 24, 3) := by decide +kernel
theorem dX8_terms_30 : decode cX8_terms 30 = .ok (.iload_n 1, 1) := by decide +kernel
theorem dX8_terms_31 : decode cX8_terms 31 = .ok (.aaload, 1) := by decide +kernel
theorem dX8_terms_32 : decode cX8_terms 32 = .ok (.getfield 184, 3) := by decide +kernel
theorem dX8_terms_35 : decode cX8_terms 35 = .ok (.aload_n 0, 1) := by decide +kernel
theorem dX8_terms_36 : decode cX8_terms 36 = .ok (.getfield 45, 3) := by decide +kernel
theorem dX8_terms_39 : decode cX8_terms 39 = .ok (.getfield 188, 3) := by decide +kernel
theorem dX8_terms_42 : decode cX8_terms 42 = .ok (.invokevirtual 191, 3) := by decide +kernel
theorem dX8_terms_45 : decode cX8_terms 45 = .ok (.aload_n 0, 1) := by decide +kernel
theorem dX8_terms_46 : decode cX8_terms 46 = .ok (.getfield 45, 3) := by decide +kernel
theorem dX8_terms_49 : decode cX8_terms 49 = .ok (.getfield 197, 3) := by decide +kernel
theorem dX8_terms_52 : decode cX8_terms 52 = .ok (.istore_n 2, 1) := by decide +kernel
theorem dX8_terms_53 : decode cX8_terms 53 = .ok (.goto 13, 3) := by decide +kernel
theorem dX8_terms_56 : decode cX8_terms 56 = .ok (.iconst (-1), 1) := by decide +kernel
theorem dX8_terms_57 : decode cX8_terms 57 = .ok (.aload_n 0, 1) := by decide +kernel
theorem dX8_terms_58 : decode cX8_terms 58 = .ok (.getfield 45, 3) := by decide +kernel
theorem dX8_terms_61 : decode cX8_terms 61 = .ok (.getfield 200, 3) := by decide +kernel
theorem dX8_terms_64 : decode cX8_terms 64 = .ok (.isub, 1) := by decide +kernel
theorem dX8_terms_65 : decode cX8_terms 65 = .ok (.istore_n 2, 1) := by decide +kernel
theorem dX8_terms_66 : decode cX8_terms 66 = .ok (.aload_n 0, 1) := by decide +kernel
theorem dX8_terms_67 : decode cX8_terms 67 = .ok (.getfield 10, 3) := by decide +kernel
theorem dX8_terms_70 : decode cX8_terms 70 = .ok (.iconst 0, 1) := by decide +kernel
theorem dX8_terms_71 : decode cX8_terms 71 = .ok (.putfield 51, 3) := by decide +kernel
theorem dX8_terms_74 : decode cX8_terms 74 = .ok (.iload_n 2, 1) := by decide +kernel
theorem dX8_terms_75 : decode cX8_terms 75 = .ok (.ireturn, 1) := by decide +kernel
