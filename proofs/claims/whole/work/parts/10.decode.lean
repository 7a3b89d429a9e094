theorem dX0_init_0 : decode cX0_init 0 = .ok (.aload_n 0, 1) := by decide +kernel
theorem dX0_init_1 : decode cX0_init 1 = .ok (.invokespecial 1, 3) := by decide +kernel
theorem dX0_init_4 : decode cX0_init 4 = .ok (.aload_n 0, 1) := by decide +kernel
theorem dX0_init_5 : decode cX0_init 5 = .ok (.iconst 0, 1) := by decide +kernel
theorem dX0_init_6 : decode cX0_init 6 = .ok (.iload_n 1, 1) := by decide +kernel
theorem dX0_init_7 : decode cX0_init 7 = .ok (.invokestatic 7, 3) := by decide +kernel
theorem dX0_init_10 : decode cX0_init 10 = .ok (.newarray .int, 2) := by decide +kernel
theorem dX0_init_12 : decode cX0_init 12 = .ok (.putfield 13, 3) := by decide +kernel
theorem dX0_init_15 : decode cX0_init 15 = .ok (.return_, 1) := by decide +kernel
theorem dX1_givenToOthers_0 : decode cX1_givenToOthers 0 = .ok (.iconst 0, 1) := by decide +kernel
theorem dX1_givenToOthers_1 : decode cX1_givenToOthers 1 = .ok (.istore_n 2, 1) := by decide +kernel
theorem dX1_givenToOthers_2 : decode cX1_givenToOthers 2 = .ok (.iconst 0, 1) := by decide +kernel
theorem dX1_givenToOthers_3 : decode cX1_givenToOthers 3 = .ok (.istore_n 3, 1) := by decide +kernel
theorem dX1_givenToOthers_4 : decode cX1_givenToOthers 4 = .ok (.iload_n 3, 1) := by decide +kernel
theorem dX1_givenToOthers_5 : decode cX1_givenToOthers 5 = .ok (.bipush 6, 2) := by decide +kernel
theorem dX1_givenToOthers_7 : decode cX1_givenToOthers 7 = .ok (.if_icmp .ge 23, 3) := by decide +kernel
theorem dX1_givenToOthers_10 : decode cX1_givenToOthers 10 = .ok (.iload_n 3, 1) := by decide +kernel
theorem dX1_givenToOthers_11 : decode cX1_givenToOthers 11 = .ok (.iload_n 1, 1) := by decide +kernel
theorem dX1_givenToOthers_12 : decode cX1_givenToOthers 12 = .ok (.if_icmp .eq 12, 3) := by decide +kernel
theorem dX1_givenToOthers_15 : decode cX1_givenToOthers 15 = .ok (.iload_n 2, 1) := by decide +kernel
theorem dX1_givenToOthers_16 : decode cX1_givenToOthers 16 = .ok (.aload_n 0, 1) := by decide +kernel
theorem dX1_givenToOthers_17 : decode cX1_givenToOthers 17 = .ok (.getfield 20, 3) := by decide +kernel
theorem dX1_givenToOthers_20 : decode cX1_givenToOthers 20 = .ok (.iload_n 3, 1) := by decide +kernel
theorem dX1_givenToOthers_21 : decode cX1_givenToOthers 21 = .ok (.iaload, 1) := by decide +kernel
theorem dX1_givenToOthers_22 : decode cX1_givenToOthers 22 = .ok (.iadd, 1) := by decide +kernel
theorem dX1_givenToOthers_23 : decode cX1_givenToOthers 23 = .ok (.istore_n 2, 1) := by decide +kernel
theorem dX1_givenToOthers_24 : decode cX1_givenToOthers 24 = .ok (.iinc 3 1, 3) := by decide +kernel
theorem dX1_givenToOthers_27 : decode cX1_givenToOthers 27 = .ok (.goto (-23), 3) := by decide +kernel
theorem dX1_givenToOthers_30 : decode cX1_givenToOthers 30 = .ok (.iload_n 2, 1) := by decide +kernel
theorem dX1_givenToOthers_31 : decode cX1_givenToOthers 31 = .ok (.ireturn, 1) := by decide +kernel
theorem dX1_milesTo_0 : decode cX1_milesTo 0 = .ok (.aload_n 0, 1) := by decide +kernel
theorem dX1_milesTo_1 : decode cX1_milesTo 1 = .ok (.getfield 35, 3) := by decide +kernel
theorem dX1_milesTo_4 : decode cX1_milesTo 4 = .ok (.aload_n 1, 1) := by decide +kernel
theorem dX1_milesTo_5 : decode cX1_milesTo 5 = .ok (.getfield 35, 3) := by decide +kernel
theorem dX1_milesTo_8 : decode cX1_milesTo 8 = .ok (.isub, 1) := by decide +kernel
theorem dX1_milesTo_9 : decode cX1_milesTo 9 = .ok (.invokestatic 38, 3) := by decide +kernel
theorem dX1_milesTo_12 : decode cX1_milesTo 12 = .ok (.aload_n 0, 1) := by decide +kernel
theorem dX1_milesTo_13 : decode cX1_milesTo 13 = .ok (.getfield 44, 3) := by decide +kernel
theorem dX1_milesTo_16 : decode cX1_milesTo 16 = .ok (.aload_n 1, 1) := by decide +kernel
theorem dX1_milesTo_17 : decode cX1_milesTo 17 = .ok (.getfield 44, 3) := by decide +kernel
theorem dX1_milesTo_20 : decode cX1_milesTo 20 = .ok (.isub, 1) := by decide +kernel
theorem dX1_milesTo_21 : decode cX1_milesTo 21 = .ok (.invokestatic 38, 3) := by decide +kernel
theorem dX1_milesTo_24 : decode cX1_milesTo 24 = .ok (.iadd, 1) := by decide +kernel
theorem dX1_milesTo_25 : decode cX1_milesTo 25 = .ok (.ireturn, 1) := by decide +kernel
theorem dX5_init_0 : decode cX5_init 0 = .ok (.aload_n 0, 1) := by decide +kernel
theorem dX5_init_1 : decode cX5_init 1 = .ok (.invokespecial 3, 3) := by decide +kernel
theorem dX5_init_4 : decode cX5_init 4 = .ok (.aload_n 0, 1) := by decide +kernel
theorem dX5_init_5 : decode cX5_init 5 = .ok (.sipush 200, 3) := by decide +kernel
theorem dX5_init_8 : decode cX5_init 8 = .ok (.newarray .int, 2) := by decide +kernel
theorem dX5_init_10 : decode cX5_init 10 = .ok (.putfield 9, 3) := by decide +kernel
theorem dX5_init_13 : decode cX5_init 13 = .ok (.return_, 1) := by decide +kernel
theorem dX5_append_0 : decode cX5_append 0 = .ok (.bipush 24, 2) := by decide +kernel
theorem dX5_append_2 : decode cX5_append 2 = .ok (.istore_n 2, 1) := by decide +kernel
theorem dX5_append_3 : decode cX5_append 3 = .ok (.iload_n 2, 1) := by decide +kernel
theorem dX5_append_4 : decode cX5_append 4 = .ok (.ifCond .lt 45, 3) := by decide +kernel
theorem dX5_append_7 : decode cX5_append 7 = .ok (.aload_n 0, 1) := by decide +kernel
theorem dX5_append_8 : decode cX5_append 8 = .ok (.getfield 15, 3) := by decide +kernel
theorem dX5_append_11 : decode cX5_append 11 = .ok (.sipush 200, 3) := by decide +kernel
theorem dX5_append_14 : decode cX5_append 14 = .ok (.if_icmp .ge 35, 3) := by decide +kernel
theorem dX5_append_17 : decode cX5_append 17 = .ok (.aload_n 0, 1) := by decide +kernel
theorem dX5_append_18 : decode cX5_append 18 = .ok (.getfield 9, 3) := by decide +kernel
theorem dX5_append_21 : decode cX5_append 21 = .ok (.aload_n 0, 1) := by decide +kernel
theorem dX5_append_22 : decode cX5_append 22 = .ok (.getfield 15, 3) := by decide +kernel
theorem dX5_append_25 : decode cX5_append 25 = .ok (.iload_n 1, 1) := by decide +kernel
theorem dX5_append_26 : decode cX5_append 26 = .ok (.iload_n 2, 1) := by decide +kernel
theorem dX5_append_27 : decode cX5_append 27 = .ok (.iushr, 1) := by decide +kernel
theorem dX5_append_28 : decode cX5_append 28 = .ok (.sipush 255, 3) := by decide +kernel
theorem dX5_append_31 : decode cX5_append 31 = .ok (.iand, 1) := by decide +kernel
theorem dX5_append_32 : decode cX5_append 32 = .ok (.iastore, 1) := by decide +kernel
theorem dX5_append_33 : decode cX5_append 33 = .ok (.aload_n 0, 1) := by decide +kernel
theorem dX5_append_34 : decode cX5_append 34 = .ok (.dup, 1) := by decide +kernel
theorem dX5_append_35 : decode cX5_append 35 = .ok (.getfield 15, 3) := by decide +kernel
theorem dX5_append_38 : decode cX5_append 38 = .ok (.iconst 1, 1) := by decide +kernel
theorem dX5_append_39 : decode cX5_append 39 = .ok (.iadd, 1) := by decide +kernel
theorem dX5_append_40 : decode cX5_append 40 = .ok (.putfield 15, 3) := by decide +kernel
theorem dX5_append_43 : decode cX5_append 43 = .ok (.iinc 2 (-8), 3) := by decide +kernel
theorem dX5_append_46 : decode cX5_append 46 = .ok (.goto (-43), 3) := by decide +kernel
theorem dX5_append_49 : decode cX5_append 49 = .ok (.return_, 1) := by decide +kernel
theorem dX5_copyFrom_0 : decode cX5_copyFrom 0 = .ok (.aload_n 1, 1) := by decide +kernel
theorem dX5_copyFrom_1 : decode cX5_copyFrom 1 = .ok (.getfield 9, 3) := by decide +kernel
theorem dX5_copyFrom_4 : decode cX5_copyFrom 4 = .ok (.iconst 0, 1) := by decide +kernel
theorem dX5_copyFrom_5 : decode cX5_copyFrom 5 = .ok (.aload_n 0, 1) := by decide +kernel
theorem dX5_copyFrom_6 : decode cX5_copyFrom 6 = .ok (.getfield 9, 3) := by decide +kernel
theorem dX5_copyFrom_9 : decode cX5_copyFrom 9 = .ok (.iconst 0, 1) := by decide +kernel
theorem dX5_copyFrom_10 : decode cX5_copyFrom 10 = .ok (.sipush 200, 3) := by decide +kernel
theorem dX5_copyFrom_13 : decode cX5_copyFrom 13 = .ok (.invokestatic 19, 3) := by decide +kernel
theorem dX5_copyFrom_16 : decode cX5_copyFrom 16 = .ok (.aload_n 0, 1) := by decide +kernel
theorem dX5_copyFrom_17 : decode cX5_copyFrom 17 = .ok (.aload_n 1, 1) := by decide +kernel
theorem dX5_copyFrom_18 : decode cX5_copyFrom 18 = .ok (.getfield 15, 3) := by decide +kernel
theorem dX5_copyFrom_21 : decode cX5_copyFrom 21 = .ok (.putfield 15, 3) := by decide +kernel
theorem dX5_copyFrom_24 : decode cX5_copyFrom 24 = .ok (.return_, 1) := by decide +kernel
theorem dX5_byteAt_0 : decode cX5_byteAt 0 = .ok (.iload_n 1, 1) := by decide +kernel
theorem dX5_byteAt_1 : decode cX5_byteAt 1 = .ok (.ifCond .lt 20, 3) := by decide +kernel
theorem dX5_byteAt_4 : decode cX5_byteAt 4 = .ok (.iload_n 1, 1) := by decide +kernel
theorem dX5_byteAt_5 : decode cX5_byteAt 5 = .ok (.aload_n 0, 1) := by decide +kernel
theorem dX5_byteAt_6 : decode cX5_byteAt 6 = .ok (.getfield 15, 3) := by decide +kernel
theorem dX5_byteAt_9 : decode cX5_byteAt 9 = .ok (.if_icmp .ge 12, 3) := by decide +kernel
theorem dX5_byteAt_12 : decode cX5_byteAt 12 = .ok (.aload_n 0, 1) := by decide +kernel
theorem dX5_byteAt_13 : decode cX5_byteAt 13 = .ok (.getfield 9, 3) := by decide +kernel
theorem dX5_byteAt_16 : decode cX5_byteAt 16 = .ok (.iload_n 1, 1) := by decide +kernel
theorem dX5_byteAt_17 : decode cX5_byteAt 17 = .ok (.iaload, 1) := by decide +kernel
theorem dX5_byteAt_18 : decode cX5_byteAt 18 = .ok (.goto 4, 3) := by decide +kernel
theorem dX5_byteAt_21 : decode cX5_byteAt 21 = .ok (.iconst (-1), 1) := by decide +kernel
theorem dX5_byteAt_22 : decode cX5_byteAt 22 = .ok (.ireturn, 1) := by decide +kernel
theorem dX5_holdsAmps_0 : decode cX5_holdsAmps 0 = .ok (.aload_n 0, 1) := by decide +kernel
theorem dX5_holdsAmps_1 : decode cX5_holdsAmps 1 = .ok (.getfield 15, 3) := by decide +kernel
theorem dX5_holdsAmps_4 : decode cX5_holdsAmps 4 = .ok (.iload_n 1, 1) := by decide +kernel
theorem dX5_holdsAmps_5 : decode cX5_holdsAmps 5 = .ok (.if_icmp .lt 11, 3) := by decide +kernel
theorem dX5_holdsAmps_8 : decode cX5_holdsAmps 8 = .ok (.aload_n 0, 1) := by decide +kernel
theorem dX5_holdsAmps_9 : decode cX5_holdsAmps 9 = .ok (.getfield 15, 3) := by decide +kernel
theorem dX5_holdsAmps_12 : decode cX5_holdsAmps 12 = .ok (.iload_n 2, 1) := by decide +kernel
theorem dX5_holdsAmps_13 : decode cX5_holdsAmps 13 = .ok (.if_icmp .le 5, 3) := by decide +kernel
theorem dX5_holdsAmps_16 : decode cX5_holdsAmps 16 = .ok (.iconst 0, 1) := by decide +kernel
theorem dX5_holdsAmps_17 : decode cX5_holdsAmps 17 = .ok (.ireturn, 1) := by decide +kernel
theorem dX5_holdsAmps_18 : decode cX5_holdsAmps 18 = .ok (.iconst 0, 1) := by decide +kernel
theorem dX5_holdsAmps_19 : decode cX5_holdsAmps 19 = .ok (.istore_n 3, 1) := by decide +kernel
theorem dX5_holdsAmps_20 : decode cX5_holdsAmps 20 = .ok (.iload_n 3, 1) := by decide +kernel
theorem dX5_holdsAmps_21 : decode cX5_holdsAmps 21 = .ok (.aload_n 0, 1) := by decide +kernel
theorem dX5_holdsAmps_22 : decode cX5_holdsAmps 22 = .ok (.getfield 15, 3) := by decide +kernel
theorem dX5_holdsAmps_25 : decode cX5_holdsAmps 25 = .ok (.if_icmp .ge 20, 3) := by decide +kernel
theorem dX5_holdsAmps_28 : decode cX5_holdsAmps 28 = .ok (.aload_n 0, 1) := by decide +kernel
theorem dX5_holdsAmps_29 : decode cX5_holdsAmps 29 = .ok (.getfield 9, 3) := by decide +kernel
theorem dX5_holdsAmps_32 : decode cX5_holdsAmps 32 = .ok (.iload_n 3, 1) := by decide +kernel
theorem dX5_holdsAmps_33 : decode cX5_holdsAmps 33 = .ok (.iaload, 1) := by decide +kernel
theorem dX5_holdsAmps_34 : decode cX5_holdsAmps 34 = .ok (.ifCond .ne 5, 3) := by decide +kernel
theorem dX5_holdsAmps_37 : decode cX5_holdsAmps 37 = .ok (.iconst 0, 1) := by decide +kernel
theorem dX5_holdsAmps_38 : decode cX5_holdsAmps 38 = .ok (.ireturn, 1) := by decide +kernel
theorem dX5_holdsAmps_39 : decode cX5_holdsAmps 39 = .ok (.iinc 3 1, 3) := by decide +kernel
theorem dX5_holdsAmps_42 : decode cX5_holdsAmps 42 = .ok (.goto (-22), 3) := by decide +kernel
theorem dX5_holdsAmps_45 : decode cX5_holdsAmps 45 = .ok (.iconst 1, 1) := by decide +kernel
theorem dX5_holdsAmps_46 : decode cX5_holdsAmps 46 = .ok (.ireturn, 1) := by decide +kernel
theorem dX0_take_0 : decode cX0_take 0 = .ok (.aload_n 0, 1) := by decide +kernel
theorem dX0_take_1 : decode cX0_take 1 = .ok (.aload_n 1, 1) := by decide +kernel
theorem dX0_take_2 : decode cX0_take 2 = .ok (.getfield 19, 3) := by decide +kernel
theorem dX0_take_5 : decode cX0_take 5 = .ok (.aload_n 0, 1) := by decide +kernel
theorem dX0_take_6 : decode cX0_take 6 = .ok (.getfield 13, 3) := by decide +kernel
theorem dX0_take_9 : decode cX0_take 9 = .ok (.arraylength, 1) := by decide +kernel
theorem dX0_take_10 : decode cX0_take 10 = .ok (.invokestatic 25, 3) := by decide +kernel
theorem dX0_take_13 : decode cX0_take 13 = .ok (.putfield 28, 3) := by decide +kernel
theorem dX0_take_16 : decode cX0_take 16 = .ok (.iconst 0, 1) := by decide +kernel
theorem dX0_take_17 : decode cX0_take 17 = .ok (.istore_n 2, 1) := by decide +kernel
theorem dX0_take_18 : decode cX0_take 18 = .ok (.iload_n 2, 1) := by decide +kernel
theorem dX0_take_19 : decode cX0_take 19 = .ok (.aload_n 0, 1) := by decide +kernel
theorem dX0_take_20 : decode cX0_take 20 = .ok (.getfield 28, 3) := by decide +kernel
theorem dX0_take_23 : decode cX0_take 23 = .ok (.if_icmp .ge 20, 3) := by decide +kernel
theorem dX0_take_26 : decode cX0_take 26 = .ok (.aload_n 0, 1) := by decide +kernel
theorem dX0_take_27 : decode cX0_take 27 = .ok (.getfield 13, 3) := by decide +kernel
theorem dX0_take_30 : decode cX0_take 30 = .ok (.iload_n 2, 1) := by decide +kernel
theorem dX0_take_31 : decode cX0_take 31 = .ok (.aload_n 1, 1) := by decide +kernel
theorem dX0_take_32 : decode cX0_take 32 = .ok (.iload_n 2, 1) := by decide +kernel
theorem dX0_take_33 : decode cX0_take 33 = .ok (.invokevirtual 31, 3) := by decide +kernel
theorem dX0_take_36 : decode cX0_take 36 = .ok (.iastore, 1) := by decide +kernel
theorem dX0_take_37 : decode cX0_take 37 = .ok (.iinc 2 1, 3) := by decide +kernel
theorem dX0_take_40 : decode cX0_take 40 = .ok (.goto (-22), 3) := by decide +kernel
theorem dX0_take_43 : decode cX0_take 43 = .ok (.return_, 1) := by decide +kernel
theorem dX1_init_0 : decode cX1_init 0 = .ok (.aload_n 0, 1) := by decide +kernel
theorem dX1_init_1 : decode cX1_init 1 = .ok (.invokespecial 3, 3) := by decide +kernel
theorem dX1_init_4 : decode cX1_init 4 = .ok (.aload_n 0, 1) := by decide +kernel
theorem dX1_init_5 : decode cX1_init 5 = .ok (.new 9, 3) := by decide +kernel
theorem dX1_init_8 : decode cX1_init 8 = .ok (.dup, 1) := by decide +kernel
theorem dX1_init_9 : decode cX1_init 9 = .ok (.iconst 4, 1) := by decide +kernel
theorem dX1_init_10 : decode cX1_init 10 = .ok (.invokespecial 11, 3) := by decide +kernel
theorem dX1_init_13 : decode cX1_init 13 = .ok (.putfield 14, 3) := by decide +kernel
theorem dX1_init_16 : decode cX1_init 16 = .ok (.aload_n 0, 1) := by decide +kernel
theorem dX1_init_17 : decode cX1_init 17 = .ok (.bipush 6, 2) := by decide +kernel
theorem dX1_init_19 : decode cX1_init 19 = .ok (.newarray .int, 2) := by decide +kernel
theorem dX1_init_21 : decode cX1_init 21 = .ok (.putfield 20, 3) := by decide +kernel
theorem dX1_init_24 : decode cX1_init 24 = .ok (.return_, 1) := by decide +kernel
theorem dX1_build_0 : decode cX1_build 0 = .ok (.aload_n 0, 1) := by decide +kernel
theorem dX1_build_1 : decode cX1_build 1 = .ok (.iload_n 1, 1) := by decide +kernel
theorem dX1_build_2 : decode cX1_build 2 = .ok (.putfield 24, 3) := by decide +kernel
theorem dX1_build_5 : decode cX1_build 5 = .ok (.aload_n 0, 1) := by decide +kernel
theorem dX1_build_6 : decode cX1_build 6 = .ok (.iload_n 2, 1) := by decide +kernel
theorem dX1_build_7 : decode cX1_build 7 = .ok (.putfield 28, 3) := by decide +kernel
theorem dX1_build_10 : decode cX1_build 10 = .ok (.aload_n 0, 1) := by decide +kernel
theorem dX1_build_11 : decode cX1_build 11 = .ok (.getfield 14, 3) := by decide +kernel
theorem dX1_build_14 : decode cX1_build 14 = .ok (.aload_n 3, 1) := by decide +kernel
theorem dX1_build_15 : decode cX1_build 15 = .ok (.invokevirtual 31, 3) := by decide +kernel
theorem dX1_build_18 : decode cX1_build 18 = .ok (.return_, 1) := by decide +kernel
