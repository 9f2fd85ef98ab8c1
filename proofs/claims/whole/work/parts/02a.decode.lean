theorem dX0_has_0 : decode cX0_has 0 = .ok (.iload_n 0, 1) := by decide +kernel
theorem dX0_has_1 : decode cX0_has 1 = .ok (.iload_n 1, 1) := by decide +kernel
theorem dX0_has_2 : decode cX0_has 2 = .ok (.iand, 1) := by decide +kernel
theorem dX0_has_3 : decode cX0_has 3 = .ok (.ifCond .eq 7, 3) := by decide +kernel
theorem dX0_has_6 : decode cX0_has 6 = .ok (.iconst 1, 1) := by decide +kernel
theorem dX0_has_7 : decode cX0_has 7 = .ok (.goto 4, 3) := by decide +kernel
theorem dX0_has_10 : decode cX0_has 10 = .ok (.iconst 0, 1) := by decide +kernel
theorem dX0_has_11 : decode cX0_has 11 = .ok (.ireturn, 1) := by decide +kernel
theorem dX0_fillOf_0 : decode cX0_fillOf 0 = .ok (.iload_n 0, 1) := by decide +kernel
theorem dX0_fillOf_1 : decode cX0_fillOf 1 = .ok (.bipush 127, 2) := by decide +kernel
theorem dX0_fillOf_3 : decode cX0_fillOf 3 = .ok (.iand, 1) := by decide +kernel
theorem dX0_fillOf_4 : decode cX0_fillOf 4 = .ok (.ireturn, 1) := by decide +kernel
theorem dX0_valveOf_0 : decode cX0_valveOf 0 = .ok (.iload_n 0, 1) := by decide +kernel
theorem dX0_valveOf_1 : decode cX0_valveOf 1 = .ok (.bipush 7, 2) := by decide +kernel
theorem dX0_valveOf_3 : decode cX0_valveOf 3 = .ok (.ishr, 1) := by decide +kernel
theorem dX0_valveOf_4 : decode cX0_valveOf 4 = .ok (.bipush 7, 2) := by decide +kernel
theorem dX0_valveOf_6 : decode cX0_valveOf 6 = .ok (.iand, 1) := by decide +kernel
theorem dX0_valveOf_7 : decode cX0_valveOf 7 = .ok (.iconst 1, 1) := by decide +kernel
theorem dX0_valveOf_8 : decode cX0_valveOf 8 = .ok (.isub, 1) := by decide +kernel
theorem dX0_valveOf_9 : decode cX0_valveOf 9 = .ok (.istore_n 1, 1) := by decide +kernel
theorem dX0_valveOf_10 : decode cX0_valveOf 10 = .ok (.iload_n 1, 1) := by decide +kernel
theorem dX0_valveOf_11 : decode cX0_valveOf 11 = .ok (.ifCond .ge 8, 3) := by decide +kernel
theorem dX0_valveOf_14 : decode cX0_valveOf 14 = .ok (.bipush (-9), 2) := by decide +kernel
theorem dX0_valveOf_16 : decode cX0_valveOf 16 = .ok (.goto 4, 3) := by decide +kernel
theorem dX0_valveOf_19 : decode cX0_valveOf 19 = .ok (.iload_n 1, 1) := by decide +kernel
theorem dX0_valveOf_20 : decode cX0_valveOf 20 = .ok (.ireturn, 1) := by decide +kernel
theorem dX0_ofEntry_0 : decode cX0_ofEntry 0 = .ok (.iload_n 0, 1) := by decide +kernel
theorem dX0_ofEntry_1 : decode cX0_ofEntry 1 = .ok (.lookupswitch 35 #[(1, 27), (2, 31)], 27) := by decide +kernel
theorem dX0_ofEntry_28 : decode cX0_ofEntry 28 = .ok (.sipush 8192, 3) := by decide +kernel
theorem dX0_ofEntry_31 : decode cX0_ofEntry 31 = .ok (.ireturn, 1) := by decide +kernel
theorem dX0_ofEntry_32 : decode cX0_ofEntry 32 = .ok (.sipush 12288, 3) := by decide +kernel
theorem dX0_ofEntry_35 : decode cX0_ofEntry 35 = .ok (.ireturn, 1) := by decide +kernel
theorem dX0_ofEntry_36 : decode cX0_ofEntry 36 = .ok (.iconst 0, 1) := by decide +kernel
theorem dX0_ofEntry_37 : decode cX0_ofEntry 37 = .ok (.ireturn, 1) := by decide +kernel
theorem dX0_filled_0 : decode cX0_filled 0 = .ok (.iload_n 0, 1) := by decide +kernel
theorem dX0_filled_1 : decode cX0_filled 1 = .ok (.sipush (-1024), 3) := by decide +kernel
theorem dX0_filled_4 : decode cX0_filled 4 = .ok (.iand, 1) := by decide +kernel
theorem dX0_filled_5 : decode cX0_filled 5 = .ok (.istore_n 3, 1) := by decide +kernel
theorem dX0_filled_6 : decode cX0_filled 6 = .ok (.iload_n 3, 1) := by decide +kernel
theorem dX0_filled_7 : decode cX0_filled 7 = .ok (.iload_n 2, 1) := by decide +kernel
theorem dX0_filled_8 : decode cX0_filled 8 = .ok (.ior, 1) := by decide +kernel
theorem dX0_filled_9 : decode cX0_filled 9 = .ok (.iload_n 1, 1) := by decide +kernel
theorem dX0_filled_10 : decode cX0_filled 10 = .ok (.iconst 1, 1) := by decide +kernel
theorem dX0_filled_11 : decode cX0_filled 11 = .ok (.iadd, 1) := by decide +kernel
theorem dX0_filled_12 : decode cX0_filled 12 = .ok (.bipush 7, 2) := by decide +kernel
theorem dX0_filled_14 : decode cX0_filled 14 = .ok (.ishl, 1) := by decide +kernel
theorem dX0_filled_15 : decode cX0_filled 15 = .ok (.ior, 1) := by decide +kernel
theorem dX0_filled_16 : decode cX0_filled 16 = .ok (.ireturn, 1) := by decide +kernel
theorem dX0_leaked_0 : decode cX0_leaked 0 = .ok (.iload_n 0, 1) := by decide +kernel
theorem dX0_leaked_1 : decode cX0_leaked 1 = .ok (.iconst 1, 1) := by decide +kernel
theorem dX0_leaked_2 : decode cX0_leaked 2 = .ok (.isub, 1) := by decide +kernel
theorem dX0_leaked_3 : decode cX0_leaked 3 = .ok (.ireturn, 1) := by decide +kernel
theorem dX1_init_0 : decode cX1_init 0 = .ok (.aload_n 0, 1) := by decide +kernel
theorem dX1_init_1 : decode cX1_init 1 = .ok (.invokespecial 3, 3) := by decide +kernel
theorem dX1_init_4 : decode cX1_init 4 = .ok (.aload_n 0, 1) := by decide +kernel
theorem dX1_init_5 : decode cX1_init 5 = .ok (.iconst 5, 1) := by decide +kernel
theorem dX1_init_6 : decode cX1_init 6 = .ok (.newarray .int, 2) := by decide +kernel
theorem dX1_init_8 : decode cX1_init 8 = .ok (.putfield 9, 3) := by decide +kernel
theorem dX1_init_11 : decode cX1_init 11 = .ok (.aload_n 0, 1) := by decide +kernel
theorem dX1_init_12 : decode cX1_init 12 = .ok (.iconst 4, 1) := by decide +kernel
theorem dX1_init_13 : decode cX1_init 13 = .ok (.newarray .int, 2) := by decide +kernel
theorem dX1_init_15 : decode cX1_init 15 = .ok (.putfield 15, 3) := by decide +kernel
theorem dX1_init_18 : decode cX1_init 18 = .ok (.aload_n 0, 1) := by decide +kernel
theorem dX1_init_19 : decode cX1_init 19 = .ok (.bipush 6, 2) := by decide +kernel
theorem dX1_init_21 : decode cX1_init 21 = .ok (.putfield 18, 3) := by decide +kernel
theorem dX1_init_24 : decode cX1_init 24 = .ok (.iconst 0, 1) := by decide +kernel
theorem dX1_init_25 : decode cX1_init 25 = .ok (.istore_n 1, 1) := by decide +kernel
theorem dX1_init_26 : decode cX1_init 26 = .ok (.iload_n 1, 1) := by decide +kernel
theorem dX1_init_27 : decode cX1_init 27 = .ok (.iconst 5, 1) := by decide +kernel
theorem dX1_init_28 : decode cX1_init 28 = .ok (.if_icmp .ge 18, 3) := by decide +kernel
theorem dX1_init_31 : decode cX1_init 31 = .ok (.aload_n 0, 1) := by decide +kernel
theorem dX1_init_32 : decode cX1_init 32 = .ok (.getfield 9, 3) := by decide +kernel
theorem dX1_init_35 : decode cX1_init 35 = .ok (.iload_n 1, 1) := by decide +kernel
theorem dX1_init_36 : decode cX1_init 36 = .ok (.iload_n 1, 1) := by decide +kernel
theorem dX1_init_37 : decode cX1_init 37 = .ok (.iconst 1, 1) := by decide +kernel
theorem dX1_init_38 : decode cX1_init 38 = .ok (.iadd, 1) := by decide +kernel
theorem dX1_init_39 : decode cX1_init 39 = .ok (.iastore, 1) := by decide +kernel
theorem dX1_init_40 : decode cX1_init 40 = .ok (.iinc 1 1, 3) := by decide +kernel
theorem dX1_init_43 : decode cX1_init 43 = .ok (.goto (-17), 3) := by decide +kernel
theorem dX1_init_46 : decode cX1_init 46 = .ok (.return_, 1) := by decide +kernel
theorem dX1_copyFrom_0 : decode cX1_copyFrom 0 = .ok (.aload_n 0, 1) := by decide +kernel
theorem dX1_copyFrom_1 : decode cX1_copyFrom 1 = .ok (.aload_n 1, 1) := by decide +kernel
theorem dX1_copyFrom_2 : decode cX1_copyFrom 2 = .ok (.getfield 18, 3) := by decide +kernel
theorem dX1_copyFrom_5 : decode cX1_copyFrom 5 = .ok (.putfield 18, 3) := by decide +kernel
theorem dX1_copyFrom_8 : decode cX1_copyFrom 8 = .ok (.aload_n 1, 1) := by decide +kernel
theorem dX1_copyFrom_9 : decode cX1_copyFrom 9 = .ok (.getfield 9, 3) := by decide +kernel
theorem dX1_copyFrom_12 : decode cX1_copyFrom 12 = .ok (.iconst 0, 1) := by decide +kernel
theorem dX1_copyFrom_13 : decode cX1_copyFrom 13 = .ok (.aload_n 0, 1) := by decide +kernel
theorem dX1_copyFrom_14 : decode cX1_copyFrom 14 = .ok (.getfield 9, 3) := by decide +kernel
theorem dX1_copyFrom_17 : decode cX1_copyFrom 17 = .ok (.iconst 0, 1) := by decide +kernel
theorem dX1_copyFrom_18 : decode cX1_copyFrom 18 = .ok (.iconst 5, 1) := by decide +kernel
theorem dX1_copyFrom_19 : decode cX1_copyFrom 19 = .ok (.invokestatic 22, 3) := by decide +kernel
theorem dX1_copyFrom_22 : decode cX1_copyFrom 22 = .ok (.aload_n 0, 1) := by decide +kernel
theorem dX1_copyFrom_23 : decode cX1_copyFrom 23 = .ok (.aload_n 1, 1) := by decide +kernel
theorem dX1_copyFrom_24 : decode cX1_copyFrom 24 = .ok (.getfield 28, 3) := by decide +kernel
theorem dX1_copyFrom_27 : decode cX1_copyFrom 27 = .ok (.putfield 28, 3) := by decide +kernel
theorem dX1_copyFrom_30 : decode cX1_copyFrom 30 = .ok (.aload_n 0, 1) := by decide +kernel
theorem dX1_copyFrom_31 : decode cX1_copyFrom 31 = .ok (.aload_n 1, 1) := by decide +kernel
theorem dX1_copyFrom_32 : decode cX1_copyFrom 32 = .ok (.getfield 31, 3) := by decide +kernel
theorem dX1_copyFrom_35 : decode cX1_copyFrom 35 = .ok (.putfield 31, 3) := by decide +kernel
theorem dX1_copyFrom_38 : decode cX1_copyFrom 38 = .ok (.aload_n 0, 1) := by decide +kernel
theorem dX1_copyFrom_39 : decode cX1_copyFrom 39 = .ok (.aload_n 1, 1) := by decide +kernel
theorem dX1_copyFrom_40 : decode cX1_copyFrom 40 = .ok (.getfield 34, 3) := by decide +kernel
theorem dX1_copyFrom_43 : decode cX1_copyFrom 43 = .ok (.putfield 34, 3) := by decide +kernel
theorem dX1_copyFrom_46 : decode cX1_copyFrom 46 = .ok (.aload_n 0, 1) := by decide +kernel
theorem dX1_copyFrom_47 : decode cX1_copyFrom 47 = .ok (.aload_n 1, 1) := by decide +kernel
theorem dX1_copyFrom_48 : decode cX1_copyFrom 48 = .ok (.getfield 37, 3) := by decide +kernel
theorem dX1_copyFrom_51 : decode cX1_copyFrom 51 = .ok (.putfield 37, 3) := by decide +kernel
theorem dX1_copyFrom_54 : decode cX1_copyFrom 54 = .ok (.aload_n 1, 1) := by decide +kernel
theorem dX1_copyFrom_55 : decode cX1_copyFrom 55 = .ok (.getfield 15, 3) := by decide +kernel
theorem dX1_copyFrom_58 : decode cX1_copyFrom 58 = .ok (.iconst 0, 1) := by decide +kernel
theorem dX1_copyFrom_59 : decode cX1_copyFrom 59 = .ok (.aload_n 0, 1) := by decide +kernel
theorem dX1_copyFrom_60 : decode cX1_copyFrom 60 = .ok (.getfield 15, 3) := by decide +kernel
theorem dX1_copyFrom_63 : decode cX1_copyFrom 63 = .ok (.iconst 0, 1) := by decide +kernel
theorem dX1_copyFrom_64 : decode cX1_copyFrom 64 = .ok (.iconst 4, 1) := by decide +kernel
theorem dX1_copyFrom_65 : decode cX1_copyFrom 65 = .ok (.invokestatic 22, 3) := by decide +kernel
theorem dX1_copyFrom_68 : decode cX1_copyFrom 68 = .ok (.return_, 1) := by decide +kernel
theorem dX1_hasCell_0 : decode cX1_hasCell 0 = .ok (.iload_n 1, 1) := by decide +kernel
theorem dX1_hasCell_1 : decode cX1_hasCell 1 = .ok (.iconst 0, 1) := by decide +kernel
theorem dX1_hasCell_2 : decode cX1_hasCell 2 = .ok (.aload_n 0, 1) := by decide +kernel
theorem dX1_hasCell_3 : decode cX1_hasCell 3 = .ok (.getfield 18, 3) := by decide +kernel
theorem dX1_hasCell_6 : decode cX1_hasCell 6 = .ok (.iconst 1, 1) := by decide +kernel
theorem dX1_hasCell_7 : decode cX1_hasCell 7 = .ok (.isub, 1) := by decide +kernel
theorem dX1_hasCell_8 : decode cX1_hasCell 8 = .ok (.invokestatic 40, 3) := by decide +kernel
theorem dX1_hasCell_11 : decode cX1_hasCell 11 = .ok (.ireturn, 1) := by decide +kernel
theorem dX1_hasValve_0 : decode cX1_hasValve 0 = .ok (.iload_n 1, 1) := by decide +kernel
theorem dX1_hasValve_1 : decode cX1_hasValve 1 = .ok (.iconst 0, 1) := by decide +kernel
theorem dX1_hasValve_2 : decode cX1_hasValve 2 = .ok (.aload_n 0, 1) := by decide +kernel
theorem dX1_hasValve_3 : decode cX1_hasValve 3 = .ok (.getfield 37, 3) := by decide +kernel
theorem dX1_hasValve_6 : decode cX1_hasValve 6 = .ok (.iconst 1, 1) := by decide +kernel
theorem dX1_hasValve_7 : decode cX1_hasValve 7 = .ok (.isub, 1) := by decide +kernel
theorem dX1_hasValve_8 : decode cX1_hasValve 8 = .ok (.invokestatic 40, 3) := by decide +kernel
theorem dX1_hasValve_11 : decode cX1_hasValve 11 = .ok (.ireturn, 1) := by decide +kernel
theorem dX1_isGood_0 : decode cX1_isGood 0 = .ok (.iload_n 1, 1) := by decide +kernel
theorem dX1_isGood_1 : decode cX1_isGood 1 = .ok (.sipush 1024, 3) := by decide +kernel
theorem dX1_isGood_4 : decode cX1_isGood 4 = .ok (.invokestatic 46, 3) := by decide +kernel
theorem dX1_isGood_7 : decode cX1_isGood 7 = .ok (.ifCond .eq 36, 3) := by decide +kernel
theorem dX1_isGood_10 : decode cX1_isGood 10 = .ok (.iload_n 1, 1) := by decide +kernel
theorem dX1_isGood_11 : decode cX1_isGood 11 = .ok (.sipush 2048, 3) := by decide +kernel
theorem dX1_isGood_14 : decode cX1_isGood 14 = .ok (.invokestatic 46, 3) := by decide +kernel
theorem dX1_isGood_17 : decode cX1_isGood 17 = .ok (.ifCond .eq 26, 3) := by decide +kernel
theorem dX1_isGood_20 : decode cX1_isGood 20 = .ok (.iload_n 1, 1) := by decide +kernel
theorem dX1_isGood_21 : decode cX1_isGood 21 = .ok (.invokestatic 50, 3) := by decide +kernel
theorem dX1_isGood_24 : decode cX1_isGood 24 = .ok (.aload_n 0, 1) := by decide +kernel
theorem dX1_isGood_25 : decode cX1_isGood 25 = .ok (.getfield 28, 3) := by decide +kernel
theorem dX1_isGood_28 : decode cX1_isGood 28 = .ok (.isub, 1) := by decide +kernel
theorem dX1_isGood_29 : decode cX1_isGood 29 = .ok (.invokestatic 54, 3) := by decide +kernel
theorem dX1_isGood_32 : decode cX1_isGood 32 = .ok (.aload_n 0, 1) := by decide +kernel
theorem dX1_isGood_33 : decode cX1_isGood 33 = .ok (.getfield 31, 3) := by decide +kernel
theorem dX1_isGood_36 : decode cX1_isGood 36 = .ok (.if_icmp .gt 7, 3) := by decide +kernel
theorem dX1_isGood_39 : decode cX1_isGood 39 = .ok (.iconst 1, 1) := by decide +kernel
theorem dX1_isGood_40 : decode cX1_isGood 40 = .ok (.goto 4, 3) := by decide +kernel
theorem dX1_isGood_43 : decode cX1_isGood 43 = .ok (.iconst 0, 1) := by decide +kernel
theorem dX1_isGood_44 : decode cX1_isGood 44 = .ok (.ireturn, 1) := by decide +kernel
theorem dX2_init_0 : decode cX2_init 0 = .ok (.aload_n 0, 1) := by decide +kernel
theorem dX2_init_1 : decode cX2_init 1 = .ok (.invokespecial 3, 3) := by decide +kernel
theorem dX2_init_4 : decode cX2_init 4 = .ok (.aload_n 0, 1) := by decide +kernel
theorem dX2_init_5 : decode cX2_init 5 = .ok (.new 9, 3) := by decide +kernel
theorem dX2_init_8 : decode cX2_init 8 = .ok (.dup, 1) := by decide +kernel
theorem dX2_init_9 : decode cX2_init 9 = .ok (.invokespecial 11, 3) := by decide +kernel
theorem dX2_init_12 : decode cX2_init 12 = .ok (.putfield 12, 3) := by decide +kernel
theorem dX2_init_15 : decode cX2_init 15 = .ok (.aload_n 0, 1) := by decide +kernel
theorem dX2_init_16 : decode cX2_init 16 = .ok (.new 18, 3) := by decide +kernel
theorem dX2_init_19 : decode cX2_init 19 = .ok (.dup, 1) := by decide +kernel
theorem dX2_init_20 : decode cX2_init 20 = .ok (.aload_n 0, 1) := by decide +kernel
theorem dX2_init_21 : decode cX2_init 21 = .ok (.getfield 12, 3) := by decide +kernel
theorem dX2_init_24 : decode cX2_init 24 = .ok (.invokespecial 20, 3) := by decide +kernel
theorem dX2_init_27 : decode cX2_init 27 = .ok (.putfield 23, 3) := by decide +kernel
theorem dX2_init_30 : decode cX2_init 30 = .ok (.return_, 1) := by decide +kernel
theorem dX2_begin_0 : decode cX2_begin 0 = .ok (.aload_n 0, 1) := by decide +kernel
theorem dX2_begin_1 : decode cX2_begin 1 = .ok (.iconst 0, 1) := by decide +kernel
theorem dX2_begin_2 : decode cX2_begin 2 = .ok (.putfield 27, 3) := by decide +kernel
theorem dX2_begin_5 : decode cX2_begin 5 = .ok (.aload_n 0, 1) := by decide +kernel
theorem dX2_begin_6 : decode cX2_begin 6 = .ok (.iconst 0, 1) := by decide +kernel
theorem dX2_begin_7 : decode cX2_begin 7 = .ok (.putfield 31, 3) := by decide +kernel
theorem dX2_begin_10 : decode cX2_begin 10 = .ok (.aload_n 0, 1) := by decide +kernel
theorem dX2_begin_11 : decode cX2_begin 11 = .ok (.getfield 12, 3) := by decide +kernel
theorem dX2_begin_14 : decode cX2_begin 14 = .ok (.iconst 0, 1) := by decide +kernel
theorem dX2_begin_15 : decode cX2_begin 15 = .ok (.putfield 34, 3) := by decide +kernel
theorem dX2_begin_18 : decode cX2_begin 18 = .ok (.aload_n 0, 1) := by decide +kernel
theorem dX2_begin_19 : decode cX2_begin 19 = .ok (.getfield 23, 3) := by decide +kernel
theorem dX2_begin_22 : decode cX2_begin 22 = .ok (.iconst 0, 1) := by decide +kernel
theorem dX2_begin_23 : decode cX2_begin 23 = .ok (.putfield 37, 3) := by decide +kernel
theorem dX2_begin_26 : decode cX2_begin 26 = .ok (.aload_n 0, 1) := by decide +kernel
theorem dX2_begin_27 : decode cX2_begin 27 = .ok (.getfield 23, 3) := by decide +kernel
theorem dX2_begin_30 : decode cX2_begin 30 = .ok (.iconst 0, 1) := by decide +kernel
theorem dX2_begin_31 : decode cX2_begin 31 = .ok (.putfield 40, 3) := by decide +kernel
theorem dX2_begin_34 : decode cX2_begin 34 = .ok (.aload_n 0, 1) := by decide +kernel
theorem dX2_begin_35 : decode cX2_begin 35 = .ok (.getfield 23, 3) := by decide +kernel
theorem dX2_begin_38 : decode cX2_begin 38 = .ok (.iconst 0, 1) := by decide +kernel
theorem dX2_begin_39 : decode cX2_begin 39 = .ok (.putfield 43, 3) := by decide +kernel
theorem dX2_begin_42 : decode cX2_begin 42 = .ok (.return_, 1) := by decide +kernel
theorem dX2_isComplete_0 : decode cX2_isComplete 0 = .ok (.aload_n 0, 1) := by decide +kernel
theorem dX2_isComplete_1 : decode cX2_isComplete 1 = .ok (.getfield 27, 3) := by decide +kernel
theorem dX2_isComplete_4 : decode cX2_isComplete 4 = .ok (.bipush 11, 2) := by decide +kernel
theorem dX2_isComplete_6 : decode cX2_isComplete 6 = .ok (.if_icmp .ne 14, 3) := by decide +kernel
theorem dX2_isComplete_9 : decode cX2_isComplete 9 = .ok (.aload_n 0, 1) := by decide +kernel
theorem dX2_isComplete_10 : decode cX2_isComplete 10 = .ok (.getfield 31, 3) := by decide +kernel
theorem dX2_isComplete_13 : decode cX2_isComplete 13 = .ok (.ifCond .ne 7, 3) := by decide +kernel
theorem dX2_isComplete_16 : decode cX2_isComplete 16 = .ok (.iconst 1, 1) := by decide +kernel
theorem dX2_isComplete_17 : decode cX2_isComplete 17 = .ok (.goto 4, 3) := by decide +kernel
theorem dX2_isComplete_20 : decode cX2_isComplete 20 = .ok (.iconst 0, 1) := by decide +kernel
theorem dX2_isComplete_21 : decode cX2_isComplete 21 = .ok (.ireturn, 1) := by decide +kernel
theorem dX2_takes_0 : decode cX2_takes 0 = .ok (.aload_n 0, 1) := by decide +kernel
theorem dX2_takes_1 : decode cX2_takes 1 = .ok (.getfield 27, 3) := by decide +kernel
theorem dX2_takes_4 : decode cX2_takes 4 = .ok (.bipush 11, 2) := by decide +kernel
theorem dX2_takes_6 : decode cX2_takes 6 = .ok (.if_icmp .ge 21, 3) := by decide +kernel
theorem dX2_takes_9 : decode cX2_takes 9 = .ok (.aload_n 0, 1) := by decide +kernel
theorem dX2_takes_10 : decode cX2_takes 10 = .ok (.iload_n 1, 1) := by decide +kernel
theorem dX2_takes_11 : decode cX2_takes 11 = .ok (.invokevirtual 46, 3) := by decide +kernel
theorem dX2_takes_14 : decode cX2_takes 14 = .ok (.istore_n 2, 1) := by decide +kernel
theorem dX2_takes_15 : decode cX2_takes 15 = .ok (.aload_n 0, 1) := by decide +kernel
theorem dX2_takes_16 : decode cX2_takes 16 = .ok (.dup, 1) := by decide +kernel
theorem dX2_takes_17 : decode cX2_takes 17 = .ok (.getfield 27, 3) := by decide +kernel
theorem dX2_takes_20 : decode cX2_takes 20 = .ok (.iconst 1, 1) := by decide +kernel
theorem dX2_takes_21 : decode cX2_takes 21 = .ok (.iadd, 1) := by decide +kernel
theorem dX2_takes_22 : decode cX2_takes 22 = .ok (.putfield 27, 3) := by decide +kernel
theorem dX2_takes_25 : decode cX2_takes 25 = .ok (.iload_n 2, 1) := by decide +kernel
theorem dX2_takes_26 : decode cX2_takes 26 = .ok (.ireturn, 1) := by decide +kernel
theorem dX2_takes_27 : decode cX2_takes 27 = .ok (.aload_n 0, 1) := by decide +kernel
theorem dX2_takes_28 : decode cX2_takes 28 = .ok (.getfield 31, 3) := by decide +kernel
theorem dX2_takes_31 : decode cX2_takes 31 = .ok (.ifCond .ne 11, 3) := by decide +kernel
theorem dX2_takes_34 : decode cX2_takes 34 = .ok (.aload_n 0, 1) := by decide +kernel
theorem dX2_takes_35 : decode cX2_takes 35 = .ok (.iload_n 1, 1) := by decide +kernel
theorem dX2_takes_36 : decode cX2_takes 36 = .ok (.invokevirtual 50, 3) := by decide +kernel
theorem dX2_takes_39 : decode cX2_takes 39 = .ok (.goto 8, 3) := by decide +kernel
theorem dX2_takes_42 : decode cX2_takes 42 = .ok (.aload_n 0, 1) := by decide +kernel
theorem dX2_takes_43 : decode cX2_takes 43 = .ok (.iload_n 1, 1) := by decide +kernel
theorem dX2_takes_44 : decode cX2_takes 44 = .ok (.invokevirtual 53, 3) := by decide +kernel
theorem dX2_takes_47 : decode cX2_takes 47 = .ok (.ireturn, 1) := by decide +kernel
theorem dX2_isDigit_0 : decode cX2_isDigit 0 = .ok (.iload_n 0, 1) := by decide +kernel
theorem dX2_isDigit_1 : decode cX2_isDigit 1 = .ok (.bipush 48, 2) := by decide +kernel
theorem dX2_isDigit_3 : decode cX2_isDigit 3 = .ok (.bipush 57, 2) := by decide +kernel
theorem dX2_isDigit_5 : decode cX2_isDigit 5 = .ok (.invokestatic 56, 3) := by decide +kernel
theorem dX2_isDigit_8 : decode cX2_isDigit 8 = .ok (.ireturn, 1) := by decide +kernel
theorem dX2_takesInHead_0 : decode cX2_takesInHead 0 = .ok (.aload_n 0, 1) := by decide +kernel
theorem dX2_takesInHead_1 : decode cX2_takesInHead 1 = .ok (.getfield 27, 3) := by decide +kernel
theorem dX2_takesInHead_4 : decode cX2_takesInHead 4 = .ok (.ifCond .ne 15, 3) := by decide +kernel
theorem dX2_takesInHead_7 : decode cX2_takesInHead 7 = .ok (.iload_n 1, 1) := by decide +kernel
theorem dX2_takesInHead_8 : decode cX2_takesInHead 8 = .ok (.bipush 66, 2) := by decide +kernel
theorem dX2_takesInHead_10 : decode cX2_takesInHead 10 = .ok (.if_icmp .ne 7, 3) := by decide +kernel
theorem dX2_takesInHead_13 : decode cX2_takesInHead 13 = .ok (.iconst 1, 1) := by decide +kernel
theorem dX2_takesInHead_14 : decode cX2_takesInHead 14 = .ok (.goto 4, 3) := by decide +kernel
theorem dX2_takesInHead_17 : decode cX2_takesInHead 17 = .ok (.iconst 0, 1) := by decide +kernel
theorem dX2_takesInHead_18 : decode cX2_takesInHead 18 = .ok (.ireturn, 1) := by decide +kernel
theorem dX2_takesInHead_19 : decode cX2_takesInHead 19 = .ok (.iload_n 1, 1) := by decide +kernel
theorem dX2_takesInHead_20 : decode cX2_takesInHead 20 = .ok (.invokestatic 60, 3) := by decide +kernel
theorem dX2_takesInHead_23 : decode cX2_takesInHead 23 = .ok (.ifCond .ne 5, 3) := by decide +kernel
theorem dX2_takesInHead_26 : decode cX2_takesInHead 26 = .ok (.iconst 0, 1) := by decide +kernel
theorem dX2_takesInHead_27 : decode cX2_takesInHead 27 = .ok (.ireturn, 1) := by decide +kernel
theorem dX2_takesInHead_28 : decode cX2_takesInHead 28 = .ok (.iload_n 1, 1) := by decide +kernel
theorem dX2_takesInHead_29 : decode cX2_takesInHead 29 = .ok (.bipush 48, 2) := by decide +kernel
theorem dX2_takesInHead_31 : decode cX2_takesInHead 31 = .ok (.isub, 1) := by decide +kernel
theorem dX2_takesInHead_32 : decode cX2_takesInHead 32 = .ok (.istore_n 2, 1) := by decide +kernel
theorem dX2_takesInHead_33 : decode cX2_takesInHead 33 = .ok (.aload_n 0, 1) := by decide +kernel
theorem dX2_takesInHead_34 : decode cX2_takesInHead 34 = .ok (.getfield 27, 3) := by decide +kernel
theorem dX2_takesInHead_37 : decode cX2_takesInHead 37 = .ok (.tableswitch 123 1 10 #[55, 123, 123, 123, 123, 123, 75, 88, 103, 113], 55) := by decide +kernel
theorem dX2_takesInHead_92 : decode cX2_takesInHead 92 = .ok (.aload_n 0, 1) := by decide +kernel
theorem dX2_takesInHead_93 : decode cX2_takesInHead 93 = .ok (.getfield 12, 3) := by decide +kernel
theorem dX2_takesInHead_96 : decode cX2_takesInHead 96 = .ok (.iload_n 2, 1) := by decide +kernel
theorem dX2_takesInHead_97 : decode cX2_takesInHead 97 = .ok (.putfield 63, 3) := by decide +kernel
theorem dX2_takesInHead_100 : decode cX2_takesInHead 100 = .ok (.iload_n 2, 1) := by decide +kernel
theorem dX2_takesInHead_101 : decode cX2_takesInHead 101 = .ok (.bipush 6, 2) := by decide +kernel
theorem dX2_takesInHead_103 : decode cX2_takesInHead 103 = .ok (.if_icmp .lt 7, 3) := by decide +kernel
theorem dX2_takesInHead_106 : decode cX2_takesInHead 106 = .ok (.iconst 1, 1) := by decide +kernel
theorem dX2_takesInHead_107 : decode cX2_takesInHead 107 = .ok (.goto 4, 3) := by decide +kernel
theorem dX2_takesInHead_110 : decode cX2_takesInHead 110 = .ok (.iconst 0, 1) := by decide +kernel
theorem dX2_takesInHead_111 : decode cX2_takesInHead 111 = .ok (.ireturn, 1) := by decide +kernel
theorem dX2_takesInHead_112 : decode cX2_takesInHead 112 = .ok (.aload_n 0, 1) := by decide +kernel
theorem dX2_takesInHead_113 : decode cX2_takesInHead 113 = .ok (.getfield 12, 3) := by decide +kernel
theorem dX2_takesInHead_116 : decode cX2_takesInHead 116 = .ok (.iload_n 2, 1) := by decide +kernel
theorem dX2_takesInHead_117 : decode cX2_takesInHead 117 = .ok (.bipush 10, 2) := by decide +kernel
theorem dX2_takesInHead_119 : decode cX2_takesInHead 119 = .ok (.imul, 1) := by decide +kernel
theorem dX2_takesInHead_120 : decode cX2_takesInHead 120 = .ok (.putfield 66, 3) := by decide +kernel
theorem dX2_takesInHead_123 : decode cX2_takesInHead 123 = .ok (.iconst 1, 1) := by decide +kernel
theorem dX2_takesInHead_124 : decode cX2_takesInHead 124 = .ok (.ireturn, 1) := by decide +kernel
theorem dX2_takesInHead_125 : decode cX2_takesInHead 125 = .ok (.aload_n 0, 1) := by decide +kernel
theorem dX2_takesInHead_126 : decode cX2_takesInHead 126 = .ok (.getfield 12, 3) := by decide +kernel
theorem dX2_takesInHead_129 : decode cX2_takesInHead 129 = .ok (.dup, 1) := by decide +kernel
theorem dX2_takesInHead_130 : decode cX2_takesInHead 130 = .ok (.getfield 66, 3) := by decide +kernel
theorem dX2_takesInHead_133 : decode cX2_takesInHead 133 = .ok (.iload_n 2, 1) := by decide +kernel
theorem dX2_takesInHead_134 : decode cX2_takesInHead 134 = .ok (.iadd, 1) := by decide +kernel
theorem dX2_takesInHead_135 : decode cX2_takesInHead 135 = .ok (.putfield 66, 3) := by decide +kernel
theorem dX2_takesInHead_138 : decode cX2_takesInHead 138 = .ok (.iconst 1, 1) := by decide +kernel
theorem dX2_takesInHead_139 : decode cX2_takesInHead 139 = .ok (.ireturn, 1) := by decide +kernel
theorem dX2_takesInHead_140 : decode cX2_takesInHead 140 = .ok (.aload_n 0, 1) := by decide +kernel
theorem dX2_takesInHead_141 : decode cX2_takesInHead 141 = .ok (.getfield 12, 3) := by decide +kernel
theorem dX2_takesInHead_144 : decode cX2_takesInHead 144 = .ok (.iload_n 2, 1) := by decide +kernel
theorem dX2_takesInHead_145 : decode cX2_takesInHead 145 = .ok (.putfield 69, 3) := by decide +kernel
theorem dX2_takesInHead_148 : decode cX2_takesInHead 148 = .ok (.iconst 1, 1) := by decide +kernel
theorem dX2_takesInHead_149 : decode cX2_takesInHead 149 = .ok (.ireturn, 1) := by decide +kernel
theorem dX2_takesInHead_150 : decode cX2_takesInHead 150 = .ok (.aload_n 0, 1) := by decide +kernel
theorem dX2_takesInHead_151 : decode cX2_takesInHead 151 = .ok (.getfield 12, 3) := by decide +kernel
theorem dX2_takesInHead_154 : decode cX2_takesInHead 154 = .ok (.iload_n 2, 1) := by decide +kernel
theorem dX2_takesInHead_155 : decode cX2_takesInHead 155 = .ok (.putfield 72, 3) := by decide +kernel
theorem dX2_takesInHead_158 : decode cX2_takesInHead 158 = .ok (.iconst 1, 1) := by decide +kernel
theorem dX2_takesInHead_159 : decode cX2_takesInHead 159 = .ok (.ireturn, 1) := by decide +kernel
theorem dX2_takesInHead_160 : decode cX2_takesInHead 160 = .ok (.aload_n 0, 1) := by decide +kernel
theorem dX2_takesInHead_161 : decode cX2_takesInHead 161 = .ok (.aload_n 0, 1) := by decide +kernel
theorem dX2_takesInHead_162 : decode cX2_takesInHead 162 = .ok (.getfield 27, 3) := by decide +kernel
theorem dX2_takesInHead_165 : decode cX2_takesInHead 165 = .ok (.iconst 2, 1) := by decide +kernel
theorem dX2_takesInHead_166 : decode cX2_takesInHead 166 = .ok (.isub, 1) := by decide +kernel
theorem dX2_takesInHead_167 : decode cX2_takesInHead 167 = .ok (.iload_n 2, 1) := by decide +kernel
theorem dX2_takesInHead_168 : decode cX2_takesInHead 168 = .ok (.invokevirtual 75, 3) := by decide +kernel
theorem dX2_takesInHead_171 : decode cX2_takesInHead 171 = .ok (.ireturn, 1) := by decide +kernel
theorem dX2_takesStation_0 : decode cX2_takesStation 0 = .ok (.iload_n 1, 1) := by decide +kernel
theorem dX2_takesStation_1 : decode cX2_takesStation 1 = .ok (.ifCond .ne 7, 3) := by decide +kernel
theorem dX2_takesStation_4 : decode cX2_takesStation 4 = .ok (.iconst 1, 1) := by decide +kernel
theorem dX2_takesStation_5 : decode cX2_takesStation 5 = .ok (.goto 16, 3) := by decide +kernel
theorem dX2_takesStation_8 : decode cX2_takesStation 8 = .ok (.aload_n 0, 1) := by decide +kernel
theorem dX2_takesStation_9 : decode cX2_takesStation 9 = .ok (.getfield 12, 3) := by decide +kernel
theorem dX2_takesStation_12 : decode cX2_takesStation 12 = .ok (.getfield 79, 3) := by decide +kernel
theorem dX2_takesStation_15 : decode cX2_takesStation 15 = .ok (.iload_n 1, 1) := by decide +kernel
theorem dX2_takesStation_16 : decode cX2_takesStation 16 = .ok (.iconst 1, 1) := by decide +kernel
theorem dX2_takesStation_17 : decode cX2_takesStation 17 = .ok (.isub, 1) := by decide +kernel
theorem dX2_takesStation_18 : decode cX2_takesStation 18 = .ok (.iaload, 1) := by decide +kernel
theorem dX2_takesStation_19 : decode cX2_takesStation 19 = .ok (.iconst 1, 1) := by decide +kernel
theorem dX2_takesStation_20 : decode cX2_takesStation 20 = .ok (.iadd, 1) := by decide +kernel
theorem dX2_takesStation_21 : decode cX2_takesStation 21 = .ok (.istore_n 3, 1) := by decide +kernel
theorem dX2_takesStation_22 : decode cX2_takesStation 22 = .ok (.aload_n 0, 1) := by decide +kernel
theorem dX2_takesStation_23 : decode cX2_takesStation 23 = .ok (.getfield 12, 3) := by decide +kernel
theorem dX2_takesStation_26 : decode cX2_takesStation 26 = .ok (.getfield 63, 3) := by decide +kernel
theorem dX2_takesStation_29 : decode cX2_takesStation 29 = .ok (.iconst 5, 1) := by decide +kernel
theorem dX2_takesStation_30 : decode cX2_takesStation 30 = .ok (.isub, 1) := by decide +kernel
theorem dX2_takesStation_31 : decode cX2_takesStation 31 = .ok (.iload_n 1, 1) := by decide +kernel
theorem dX2_takesStation_32 : decode cX2_takesStation 32 = .ok (.iadd, 1) := by decide +kernel
theorem dX2_takesStation_33 : decode cX2_takesStation 33 = .ok (.istore 4, 2) := by decide +kernel
theorem dX2_takesStation_35 : decode cX2_takesStation 35 = .ok (.aload_n 0, 1) := by decide +kernel
theorem dX2_takesStation_36 : decode cX2_takesStation 36 = .ok (.getfield 12, 3) := by decide +kernel
theorem dX2_takesStation_39 : decode cX2_takesStation 39 = .ok (.getfield 79, 3) := by decide +kernel
theorem dX2_takesStation_42 : decode cX2_takesStation 42 = .ok (.iload_n 1, 1) := by decide +kernel
theorem dX2_takesStation_43 : decode cX2_takesStation 43 = .ok (.iload_n 2, 1) := by decide +kernel
theorem dX2_takesStation_44 : decode cX2_takesStation 44 = .ok (.iastore, 1) := by decide +kernel
theorem dX2_takesStation_45 : decode cX2_takesStation 45 = .ok (.iload_n 2, 1) := by decide +kernel
theorem dX2_takesStation_46 : decode cX2_takesStation 46 = .ok (.iload_n 3, 1) := by decide +kernel
theorem dX2_takesStation_47 : decode cX2_takesStation 47 = .ok (.iload 4, 2) := by decide +kernel
theorem dX2_takesStation_49 : decode cX2_takesStation 49 = .ok (.invokestatic 56, 3) := by decide +kernel
theorem dX2_takesStation_52 : decode cX2_takesStation 52 = .ok (.ireturn, 1) := by decide +kernel
theorem dX2_takesPart_0 : decode cX2_takesPart 0 = .ok (.iload_n 1, 1) := by decide +kernel
theorem dX2_takesPart_1 : decode cX2_takesPart 1 = .ok (.lookupswitch 145 #[(45, 139), (98, 127), (99, 81), (108, 104), (118, 59), (120, 133)], 59) := by decide +kernel
theorem dX2_takesPart_60 : decode cX2_takesPart 60 = .ok (.aload_n 0, 1) := by decide +kernel
theorem dX2_takesPart_61 : decode cX2_takesPart 61 = .ok (.iload_n 1, 1) := by decide +kernel
theorem dX2_takesPart_62 : decode cX2_takesPart 62 = .ok (.aload_n 0, 1) := by decide +kernel
theorem dX2_takesPart_63 : decode cX2_takesPart 63 = .ok (.getfield 12, 3) := by decide +kernel
theorem dX2_takesPart_66 : decode cX2_takesPart 66 = .ok (.getfield 34, 3) := by decide +kernel
theorem dX2_takesPart_69 : decode cX2_takesPart 69 = .ok (.iconst 4, 1) := by decide +kernel
theorem dX2_takesPart_70 : decode cX2_takesPart 70 = .ok (.if_icmp .ge 7, 3) := by decide +kernel
theorem dX2_takesPart_73 : decode cX2_takesPart 73 = .ok (.iconst 1, 1) := by decide +kernel
theorem dX2_takesPart_74 : decode cX2_takesPart 74 = .ok (.goto 4, 3) := by decide +kernel
theorem dX2_takesPart_77 : decode cX2_takesPart 77 = .ok (.iconst 0, 1) := by decide +kernel
theorem dX2_takesPart_78 : decode cX2_takesPart 78 = .ok (.invokevirtual 83, 3) := by decide +kernel
theorem dX2_takesPart_81 : decode cX2_takesPart 81 = .ok (.ireturn, 1) := by decide +kernel
theorem dX2_takesPart_82 : decode cX2_takesPart 82 = .ok (.aload_n 0, 1) := by decide +kernel
theorem dX2_takesPart_83 : decode cX2_takesPart 83 = .ok (.iload_n 1, 1) := by decide +kernel
theorem dX2_takesPart_84 : decode cX2_takesPart 84 = .ok (.aload_n 0, 1) := by decide +kernel
theorem dX2_takesPart_85 : decode cX2_takesPart 85 = .ok (.getfield 23, 3) := by decide +kernel
theorem dX2_takesPart_88 : decode cX2_takesPart 88 = .ok (.getfield 37, 3) := by decide +kernel
theorem dX2_takesPart_91 : decode cX2_takesPart 91 = .ok (.bipush 99, 2) := by decide +kernel
theorem dX2_takesPart_93 : decode cX2_takesPart 93 = .ok (.if_icmp .ge 7, 3) := by decide +kernel
theorem dX2_takesPart_96 : decode cX2_takesPart 96 = .ok (.iconst 1, 1) := by decide +kernel
theorem dX2_takesPart_97 : decode cX2_takesPart 97 = .ok (.goto 4, 3) := by decide +kernel
theorem dX2_takesPart_100 : decode cX2_takesPart 100 = .ok (.iconst 0, 1) := by decide +kernel
theorem dX2_takesPart_101 : decode cX2_takesPart 101 = .ok (.invokevirtual 83, 3) := by decide +kernel
theorem dX2_takesPart_104 : decode cX2_takesPart 104 = .ok (.ireturn, 1) := by decide +kernel
theorem dX2_takesPart_105 : decode cX2_takesPart 105 = .ok (.aload_n 0, 1) := by decide +kernel
theorem dX2_takesPart_106 : decode cX2_takesPart 106 = .ok (.iload_n 1, 1) := by decide +kernel
theorem dX2_takesPart_107 : decode cX2_takesPart 107 = .ok (.aload_n 0, 1) := by decide +kernel
theorem dX2_takesPart_108 : decode cX2_takesPart 108 = .ok (.getfield 23, 3) := by decide +kernel
theorem dX2_takesPart_111 : decode cX2_takesPart 111 = .ok (.getfield 40, 3) := by decide +kernel
theorem dX2_takesPart_114 : decode cX2_takesPart 114 = .ok (.bipush 99, 2) := by decide +kernel
theorem dX2_takesPart_116 : decode cX2_takesPart 116 = .ok (.if_icmp .ge 7, 3) := by decide +kernel
theorem dX2_takesPart_119 : decode cX2_takesPart 119 = .ok (.iconst 1, 1) := by decide +kernel
theorem dX2_takesPart_120 : decode cX2_takesPart 120 = .ok (.goto 4, 3) := by decide +kernel
theorem dX2_takesPart_123 : decode cX2_takesPart 123 = .ok (.iconst 0, 1) := by decide +kernel
theorem dX2_takesPart_124 : decode cX2_takesPart 124 = .ok (.invokevirtual 83, 3) := by decide +kernel
theorem dX2_takesPart_127 : decode cX2_takesPart 127 = .ok (.ireturn, 1) := by decide +kernel
theorem dX2_takesPart_128 : decode cX2_takesPart 128 = .ok (.aload_n 0, 1) := by decide +kernel
theorem dX2_takesPart_129 : decode cX2_takesPart 129 = .ok (.iconst 1, 1) := by decide +kernel
theorem dX2_takesPart_130 : decode cX2_takesPart 130 = .ok (.invokevirtual 87, 3) := by decide +kernel
theorem dX2_takesPart_133 : decode cX2_takesPart 133 = .ok (.ireturn, 1) := by decide +kernel
theorem dX2_takesPart_134 : decode cX2_takesPart 134 = .ok (.aload_n 0, 1) := by decide +kernel
theorem dX2_takesPart_135 : decode cX2_takesPart 135 = .ok (.iconst 2, 1) := by decide +kernel
theorem dX2_takesPart_136 : decode cX2_takesPart 136 = .ok (.invokevirtual 87, 3) := by decide +kernel
theorem dX2_takesPart_139 : decode cX2_takesPart 139 = .ok (.ireturn, 1) := by decide +kernel
theorem dX2_takesPart_140 : decode cX2_takesPart 140 = .ok (.aload_n 0, 1) := by decide +kernel
theorem dX2_takesPart_141 : decode cX2_takesPart 141 = .ok (.iconst 0, 1) := by decide +kernel
theorem dX2_takesPart_142 : decode cX2_takesPart 142 = .ok (.invokevirtual 87, 3) := by decide +kernel
theorem dX2_takesPart_145 : decode cX2_takesPart 145 = .ok (.ireturn, 1) := by decide +kernel
theorem dX2_takesPart_146 : decode cX2_takesPart 146 = .ok (.iconst 0, 1) := by decide +kernel
theorem dX2_takesPart_147 : decode cX2_takesPart 147 = .ok (.ireturn, 1) := by decide +kernel
theorem dX2_opensPart_0 : decode cX2_opensPart 0 = .ok (.aload_n 0, 1) := by decide +kernel
theorem dX2_opensPart_1 : decode cX2_opensPart 1 = .ok (.iload_n 1, 1) := by decide +kernel
theorem dX2_opensPart_2 : decode cX2_opensPart 2 = .ok (.putfield 31, 3) := by decide +kernel
theorem dX2_opensPart_5 : decode cX2_opensPart 5 = .ok (.aload_n 0, 1) := by decide +kernel
theorem dX2_opensPart_6 : decode cX2_opensPart 6 = .ok (.iconst 0, 1) := by decide +kernel
theorem dX2_opensPart_7 : decode cX2_opensPart 7 = .ok (.putfield 90, 3) := by decide +kernel
theorem dX2_opensPart_10 : decode cX2_opensPart 10 = .ok (.aload_n 0, 1) := by decide +kernel
theorem dX2_opensPart_11 : decode cX2_opensPart 11 = .ok (.iconst 0, 1) := by decide +kernel
theorem dX2_opensPart_12 : decode cX2_opensPart 12 = .ok (.putfield 93, 3) := by decide +kernel
theorem dX2_opensPart_15 : decode cX2_opensPart 15 = .ok (.iload_n 2, 1) := by decide +kernel
theorem dX2_opensPart_16 : decode cX2_opensPart 16 = .ok (.ireturn, 1) := by decide +kernel
theorem dX2_takesEntry_0 : decode cX2_takesEntry 0 = .ok (.aload_n 0, 1) := by decide +kernel
theorem dX2_takesEntry_1 : decode cX2_takesEntry 1 = .ok (.getfield 23, 3) := by decide +kernel
theorem dX2_takesEntry_4 : decode cX2_takesEntry 4 = .ok (.getfield 43, 3) := by decide +kernel
theorem dX2_takesEntry_7 : decode cX2_takesEntry 7 = .ok (.bipush 24, 2) := by decide +kernel
theorem dX2_takesEntry_9 : decode cX2_takesEntry 9 = .ok (.if_icmp .ge 7, 3) := by decide +kernel
theorem dX2_takesEntry_12 : decode cX2_takesEntry 12 = .ok (.iconst 1, 1) := by decide +kernel
theorem dX2_takesEntry_13 : decode cX2_takesEntry 13 = .ok (.goto 4, 3) := by decide +kernel
theorem dX2_takesEntry_16 : decode cX2_takesEntry 16 = .ok (.iconst 0, 1) := by decide +kernel
theorem dX2_takesEntry_17 : decode cX2_takesEntry 17 = .ok (.istore_n 2, 1) := by decide +kernel
theorem dX2_takesEntry_18 : decode cX2_takesEntry 18 = .ok (.aload_n 0, 1) := by decide +kernel
theorem dX2_takesEntry_19 : decode cX2_takesEntry 19 = .ok (.getfield 23, 3) := by decide +kernel
theorem dX2_takesEntry_22 : decode cX2_takesEntry 22 = .ok (.iload_n 1, 1) := by decide +kernel
theorem dX2_takesEntry_23 : decode cX2_takesEntry 23 = .ok (.invokevirtual 96, 3) := by decide +kernel
theorem dX2_takesEntry_26 : decode cX2_takesEntry 26 = .ok (.iload_n 2, 1) := by decide +kernel
theorem dX2_takesEntry_27 : decode cX2_takesEntry 27 = .ok (.ireturn, 1) := by decide +kernel
theorem dX2_takesDigit_0 : decode cX2_takesDigit 0 = .ok (.iload_n 1, 1) := by decide +kernel
theorem dX2_takesDigit_1 : decode cX2_takesDigit 1 = .ok (.invokestatic 60, 3) := by decide +kernel
theorem dX2_takesDigit_4 : decode cX2_takesDigit 4 = .ok (.ifCond .ne 5, 3) := by decide +kernel
theorem dX2_takesDigit_7 : decode cX2_takesDigit 7 = .ok (.iconst 0, 1) := by decide +kernel
theorem dX2_takesDigit_8 : decode cX2_takesDigit 8 = .ok (.ireturn, 1) := by decide +kernel
theorem dX2_takesDigit_9 : decode cX2_takesDigit 9 = .ok (.aload_n 0, 1) := by decide +kernel
theorem dX2_takesDigit_10 : decode cX2_takesDigit 10 = .ok (.dup, 1) := by decide +kernel
theorem dX2_takesDigit_11 : decode cX2_takesDigit 11 = .ok (.getfield 90, 3) := by decide +kernel
theorem dX2_takesDigit_14 : decode cX2_takesDigit 14 = .ok (.iconst 1, 1) := by decide +kernel
theorem dX2_takesDigit_15 : decode cX2_takesDigit 15 = .ok (.iadd, 1) := by decide +kernel
theorem dX2_takesDigit_16 : decode cX2_takesDigit 16 = .ok (.putfield 90, 3) := by decide +kernel
theorem dX2_takesDigit_19 : decode cX2_takesDigit 19 = .ok (.aload_n 0, 1) := by decide +kernel
theorem dX2_takesDigit_20 : decode cX2_takesDigit 20 = .ok (.aload_n 0, 1) := by decide +kernel
theorem dX2_takesDigit_21 : decode cX2_takesDigit 21 = .ok (.getfield 93, 3) := by decide +kernel
theorem dX2_takesDigit_24 : decode cX2_takesDigit 24 = .ok (.bipush 10, 2) := by decide +kernel
theorem dX2_takesDigit_26 : decode cX2_takesDigit 26 = .ok (.imul, 1) := by decide +kernel
theorem dX2_takesDigit_27 : decode cX2_takesDigit 27 = .ok (.iload_n 1, 1) := by decide +kernel
theorem dX2_takesDigit_28 : decode cX2_takesDigit 28 = .ok (.iadd, 1) := by decide +kernel
theorem dX2_takesDigit_29 : decode cX2_takesDigit 29 = .ok (.bipush 48, 2) := by decide +kernel
theorem dX2_takesDigit_31 : decode cX2_takesDigit 31 = .ok (.isub, 1) := by decide +kernel
theorem dX2_takesDigit_32 : decode cX2_takesDigit 32 = .ok (.putfield 93, 3) := by decide +kernel
theorem dX2_takesDigit_35 : decode cX2_takesDigit 35 = .ok (.aload_n 0, 1) := by decide +kernel
theorem dX2_takesDigit_36 : decode cX2_takesDigit 36 = .ok (.getfield 31, 3) := by decide +kernel
theorem dX2_takesDigit_39 : decode cX2_takesDigit 39 = .ok (.bipush 118, 2) := by decide +kernel
theorem dX2_takesDigit_41 : decode cX2_takesDigit 41 = .ok (.if_icmp .ne 10, 3) := by decide +kernel
theorem dX2_takesDigit_44 : decode cX2_takesDigit 44 = .ok (.aload_n 0, 1) := by decide +kernel
theorem dX2_takesDigit_45 : decode cX2_takesDigit 45 = .ok (.invokevirtual 100, 3) := by decide +kernel
theorem dX2_takesDigit_48 : decode cX2_takesDigit 48 = .ok (.goto 21, 3) := by decide +kernel
theorem dX2_takesDigit_51 : decode cX2_takesDigit 51 = .ok (.aload_n 0, 1) := by decide +kernel
theorem dX2_takesDigit_52 : decode cX2_takesDigit 52 = .ok (.aload_n 0, 1) := by decide +kernel
theorem dX2_takesDigit_53 : decode cX2_takesDigit 53 = .ok (.getfield 31, 3) := by decide +kernel
theorem dX2_takesDigit_56 : decode cX2_takesDigit 56 = .ok (.bipush 108, 2) := by decide +kernel
theorem dX2_takesDigit_58 : decode cX2_takesDigit 58 = .ok (.if_icmp .ne 7, 3) := by decide +kernel
theorem dX2_takesDigit_61 : decode cX2_takesDigit 61 = .ok (.iconst 1, 1) := by decide +kernel
theorem dX2_takesDigit_62 : decode cX2_takesDigit 62 = .ok (.goto 4, 3) := by decide +kernel
theorem dX2_takesDigit_65 : decode cX2_takesDigit 65 = .ok (.iconst 0, 1) := by decide +kernel
theorem dX2_takesDigit_66 : decode cX2_takesDigit 66 = .ok (.invokevirtual 104, 3) := by decide +kernel
theorem dX2_takesDigit_69 : decode cX2_takesDigit 69 = .ok (.ireturn, 1) := by decide +kernel
theorem dX2_takesValve_0 : decode cX2_takesValve 0 = .ok (.aload_n 0, 1) := by decide +kernel
theorem dX2_takesValve_1 : decode cX2_takesValve 1 = .ok (.getfield 90, 3) := by decide +kernel
theorem dX2_takesValve_4 : decode cX2_takesValve 4 = .ok (.iconst 3, 1) := by decide +kernel
theorem dX2_takesValve_5 : decode cX2_takesValve 5 = .ok (.if_icmp .ne 78, 3) := by decide +kernel
theorem dX2_takesValve_8 : decode cX2_takesValve 8 = .ok (.aload_n 0, 1) := by decide +kernel
theorem dX2_takesValve_9 : decode cX2_takesValve 9 = .ok (.getfield 12, 3) := by decide +kernel
theorem dX2_takesValve_12 : decode cX2_takesValve 12 = .ok (.getfield 34, 3) := by decide +kernel
theorem dX2_takesValve_15 : decode cX2_takesValve 15 = .ok (.iconst 4, 1) := by decide +kernel
theorem dX2_takesValve_16 : decode cX2_takesValve 16 = .ok (.if_icmp .ge 67, 3) := by decide +kernel
theorem dX2_takesValve_19 : decode cX2_takesValve 19 = .ok (.aload_n 0, 1) := by decide +kernel
theorem dX2_takesValve_20 : decode cX2_takesValve 20 = .ok (.getfield 23, 3) := by decide +kernel
theorem dX2_takesValve_23 : decode cX2_takesValve 23 = .ok (.getfield 108, 3) := by decide +kernel
theorem dX2_takesValve_26 : decode cX2_takesValve 26 = .ok (.aload_n 0, 1) := by decide +kernel
theorem dX2_takesValve_27 : decode cX2_takesValve 27 = .ok (.getfield 12, 3) := by decide +kernel
theorem dX2_takesValve_30 : decode cX2_takesValve 30 = .ok (.getfield 34, 3) := by decide +kernel
theorem dX2_takesValve_33 : decode cX2_takesValve 33 = .ok (.aload_n 0, 1) := by decide +kernel
theorem dX2_takesValve_34 : decode cX2_takesValve 34 = .ok (.getfield 93, 3) := by decide +kernel
theorem dX2_takesValve_37 : decode cX2_takesValve 37 = .ok (.bipush 10, 2) := by decide +kernel
theorem dX2_takesValve_39 : decode cX2_takesValve 39 = .ok (.idiv, 1) := by decide +kernel
theorem dX2_takesValve_40 : decode cX2_takesValve 40 = .ok (.iastore, 1) := by decide +kernel
theorem dX2_takesValve_41 : decode cX2_takesValve 41 = .ok (.aload_n 0, 1) := by decide +kernel
theorem dX2_takesValve_42 : decode cX2_takesValve 42 = .ok (.getfield 12, 3) := by decide +kernel
theorem dX2_takesValve_45 : decode cX2_takesValve 45 = .ok (.getfield 111, 3) := by decide +kernel
theorem dX2_takesValve_48 : decode cX2_takesValve 48 = .ok (.aload_n 0, 1) := by decide +kernel
theorem dX2_takesValve_49 : decode cX2_takesValve 49 = .ok (.getfield 12, 3) := by decide +kernel
theorem dX2_takesValve_52 : decode cX2_takesValve 52 = .ok (.getfield 34, 3) := by decide +kernel
theorem dX2_takesValve_55 : decode cX2_takesValve 55 = .ok (.aload_n 0, 1) := by decide +kernel
theorem dX2_takesValve_56 : decode cX2_takesValve 56 = .ok (.getfield 93, 3) := by decide +kernel
theorem dX2_takesValve_59 : decode cX2_takesValve 59 = .ok (.bipush 10, 2) := by decide +kernel
theorem dX2_takesValve_61 : decode cX2_takesValve 61 = .ok (.irem, 1) := by decide +kernel
theorem dX2_takesValve_62 : decode cX2_takesValve 62 = .ok (.iconst 4, 1) := by decide +kernel
theorem dX2_takesValve_63 : decode cX2_takesValve 63 = .ok (.isub, 1) := by decide +kernel
theorem dX2_takesValve_64 : decode cX2_takesValve 64 = .ok (.iastore, 1) := by decide +kernel
theorem dX2_takesValve_65 : decode cX2_takesValve 65 = .ok (.aload_n 0, 1) := by decide +kernel
theorem dX2_takesValve_66 : decode cX2_takesValve 66 = .ok (.getfield 12, 3) := by decide +kernel
theorem dX2_takesValve_69 : decode cX2_takesValve 69 = .ok (.dup, 1) := by decide +kernel
theorem dX2_takesValve_70 : decode cX2_takesValve 70 = .ok (.getfield 34, 3) := by decide +kernel
theorem dX2_takesValve_73 : decode cX2_takesValve 73 = .ok (.iconst 1, 1) := by decide +kernel
theorem dX2_takesValve_74 : decode cX2_takesValve 74 = .ok (.iadd, 1) := by decide +kernel
theorem dX2_takesValve_75 : decode cX2_takesValve 75 = .ok (.putfield 34, 3) := by decide +kernel
theorem dX2_takesValve_78 : decode cX2_takesValve 78 = .ok (.aload_n 0, 1) := by decide +kernel
theorem dX2_takesValve_79 : decode cX2_takesValve 79 = .ok (.iconst 0, 1) := by decide +kernel
theorem dX2_takesValve_80 : decode cX2_takesValve 80 = .ok (.putfield 31, 3) := by decide +kernel
theorem dX2_takesValve_83 : decode cX2_takesValve 83 = .ok (.iconst 1, 1) := by decide +kernel
theorem dX2_takesValve_84 : decode cX2_takesValve 84 = .ok (.ireturn, 1) := by decide +kernel
theorem dX2_takesStock_0 : decode cX2_takesStock 0 = .ok (.bipush 99, 2) := by decide +kernel
theorem dX2_takesStock_2 : decode cX2_takesStock 2 = .ok (.aload_n 0, 1) := by decide +kernel
theorem dX2_takesStock_3 : decode cX2_takesStock 3 = .ok (.getfield 23, 3) := by decide +kernel
theorem dX2_takesStock_6 : decode cX2_takesStock 6 = .ok (.iload_n 1, 1) := by decide +kernel
theorem dX2_takesStock_7 : decode cX2_takesStock 7 = .ok (.invokevirtual 114, 3) := by decide +kernel
theorem dX2_takesStock_10 : decode cX2_takesStock 10 = .ok (.isub, 1) := by decide +kernel
theorem dX2_takesStock_11 : decode cX2_takesStock 11 = .ok (.istore_n 2, 1) := by decide +kernel
theorem dX2_takesStock_12 : decode cX2_takesStock 12 = .ok (.aload_n 0, 1) := by decide +kernel
theorem dX2_takesStock_13 : decode cX2_takesStock 13 = .ok (.getfield 90, 3) := by decide +kernel
theorem dX2_takesStock_16 : decode cX2_takesStock 16 = .ok (.iconst 1, 1) := by decide +kernel
theorem dX2_takesStock_17 : decode cX2_takesStock 17 = .ok (.if_icmp .ne 20, 3) := by decide +kernel
theorem dX2_takesStock_20 : decode cX2_takesStock 20 = .ok (.aload_n 0, 1) := by decide +kernel
theorem dX2_takesStock_21 : decode cX2_takesStock 21 = .ok (.getfield 93, 3) := by decide +kernel
theorem dX2_takesStock_24 : decode cX2_takesStock 24 = .ok (.bipush 10, 2) := by decide +kernel
theorem dX2_takesStock_26 : decode cX2_takesStock 26 = .ok (.imul, 1) := by decide +kernel
theorem dX2_takesStock_27 : decode cX2_takesStock 27 = .ok (.iload_n 2, 1) := by decide +kernel
theorem dX2_takesStock_28 : decode cX2_takesStock 28 = .ok (.if_icmp .gt 7, 3) := by decide +kernel
theorem dX2_takesStock_31 : decode cX2_takesStock 31 = .ok (.iconst 1, 1) := by decide +kernel
theorem dX2_takesStock_32 : decode cX2_takesStock 32 = .ok (.goto 4, 3) := by decide +kernel
theorem dX2_takesStock_35 : decode cX2_takesStock 35 = .ok (.iconst 0, 1) := by decide +kernel
theorem dX2_takesStock_36 : decode cX2_takesStock 36 = .ok (.ireturn, 1) := by decide +kernel
theorem dX2_takesStock_37 : decode cX2_takesStock 37 = .ok (.aload_n 0, 1) := by decide +kernel
theorem dX2_takesStock_38 : decode cX2_takesStock 38 = .ok (.getfield 93, 3) := by decide +kernel
theorem dX2_takesStock_41 : decode cX2_takesStock 41 = .ok (.iconst 1, 1) := by decide +kernel
theorem dX2_takesStock_42 : decode cX2_takesStock 42 = .ok (.iload_n 2, 1) := by decide +kernel
theorem dX2_takesStock_43 : decode cX2_takesStock 43 = .ok (.invokestatic 56, 3) := by decide +kernel
theorem dX2_takesStock_46 : decode cX2_takesStock 46 = .ok (.ifCond .ne 5, 3) := by decide +kernel
theorem dX2_takesStock_49 : decode cX2_takesStock 49 = .ok (.iconst 0, 1) := by decide +kernel
theorem dX2_takesStock_50 : decode cX2_takesStock 50 = .ok (.ireturn, 1) := by decide +kernel
theorem dX2_takesStock_51 : decode cX2_takesStock 51 = .ok (.aload_n 0, 1) := by decide +kernel
theorem dX2_takesStock_52 : decode cX2_takesStock 52 = .ok (.getfield 23, 3) := by decide +kernel
theorem dX2_takesStock_55 : decode cX2_takesStock 55 = .ok (.iload_n 1, 1) := by decide +kernel
theorem dX2_takesStock_56 : decode cX2_takesStock 56 = .ok (.aload_n 0, 1) := by decide +kernel
theorem dX2_takesStock_57 : decode cX2_takesStock 57 = .ok (.getfield 93, 3) := by decide +kernel
theorem dX2_takesStock_60 : decode cX2_takesStock 60 = .ok (.invokevirtual 118, 3) := by decide +kernel
theorem dX2_takesStock_63 : decode cX2_takesStock 63 = .ok (.aload_n 0, 1) := by decide +kernel
theorem dX2_takesStock_64 : decode cX2_takesStock 64 = .ok (.iconst 0, 1) := by decide +kernel
theorem dX2_takesStock_65 : decode cX2_takesStock 65 = .ok (.putfield 31, 3) := by decide +kernel
theorem dX2_takesStock_68 : decode cX2_takesStock 68 = .ok (.iconst 1, 1) := by decide +kernel
theorem dX2_takesStock_69 : decode cX2_takesStock 69 = .ok (.ireturn, 1) := by decide +kernel
theorem dX3_init_0 : decode cX3_init 0 = .ok (.aload_n 0, 1) := by decide +kernel
theorem dX3_init_1 : decode cX3_init 1 = .ok (.invokespecial 3, 3) := by decide +kernel
theorem dX3_init_4 : decode cX3_init 4 = .ok (.aload_n 0, 1) := by decide +kernel
theorem dX3_init_5 : decode cX3_init 5 = .ok (.bipush 9, 2) := by decide +kernel
theorem dX3_init_7 : decode cX3_init 7 = .ok (.newarray .int, 2) := by decide +kernel
theorem dX3_init_9 : decode cX3_init 9 = .ok (.putfield 9, 3) := by decide +kernel
theorem dX3_init_12 : decode cX3_init 12 = .ok (.aload_n 0, 1) := by decide +kernel
theorem dX3_init_13 : decode cX3_init 13 = .ok (.bipush 9, 2) := by decide +kernel
theorem dX3_init_15 : decode cX3_init 15 = .ok (.newarray .int, 2) := by decide +kernel
theorem dX3_init_17 : decode cX3_init 17 = .ok (.putfield 15, 3) := by decide +kernel
theorem dX3_init_20 : decode cX3_init 20 = .ok (.aload_n 0, 1) := by decide +kernel
theorem dX3_init_21 : decode cX3_init 21 = .ok (.iconst 4, 1) := by decide +kernel
theorem dX3_init_22 : decode cX3_init 22 = .ok (.newarray .int, 2) := by decide +kernel
theorem dX3_init_24 : decode cX3_init 24 = .ok (.putfield 18, 3) := by decide +kernel
theorem dX3_init_27 : decode cX3_init 27 = .ok (.aload_n 0, 1) := by decide +kernel
theorem dX3_init_28 : decode cX3_init 28 = .ok (.bipush 24, 2) := by decide +kernel
theorem dX3_init_30 : decode cX3_init 30 = .ok (.newarray .int, 2) := by decide +kernel
theorem dX3_init_32 : decode cX3_init 32 = .ok (.putfield 21, 3) := by decide +kernel
theorem dX3_init_35 : decode cX3_init 35 = .ok (.aload_n 0, 1) := by decide +kernel
theorem dX3_init_36 : decode cX3_init 36 = .ok (.aload_n 1, 1) := by decide +kernel
theorem dX3_init_37 : decode cX3_init 37 = .ok (.putfield 24, 3) := by decide +kernel
theorem dX3_init_40 : decode cX3_init 40 = .ok (.return_, 1) := by decide +kernel
theorem dX3_copyFrom_0 : decode cX3_copyFrom 0 = .ok (.aload_n 1, 1) := by decide +kernel
theorem dX3_copyFrom_1 : decode cX3_copyFrom 1 = .ok (.getfield 9, 3) := by decide +kernel
theorem dX3_copyFrom_4 : decode cX3_copyFrom 4 = .ok (.iconst 0, 1) := by decide +kernel
theorem dX3_copyFrom_5 : decode cX3_copyFrom 5 = .ok (.aload_n 0, 1) := by decide +kernel
theorem dX3_copyFrom_6 : decode cX3_copyFrom 6 = .ok (.getfield 9, 3) := by decide +kernel
theorem dX3_copyFrom_9 : decode cX3_copyFrom 9 = .ok (.iconst 0, 1) := by decide +kernel
theorem dX3_copyFrom_10 : decode cX3_copyFrom 10 = .ok (.bipush 9, 2) := by decide +kernel
theorem dX3_copyFrom_12 : decode cX3_copyFrom 12 = .ok (.invokestatic 28, 3) := by decide +kernel
theorem dX3_copyFrom_15 : decode cX3_copyFrom 15 = .ok (.aload_n 1, 1) := by decide +kernel
theorem dX3_copyFrom_16 : decode cX3_copyFrom 16 = .ok (.getfield 15, 3) := by decide +kernel
theorem dX3_copyFrom_19 : decode cX3_copyFrom 19 = .ok (.iconst 0, 1) := by decide +kernel
theorem dX3_copyFrom_20 : decode cX3_copyFrom 20 = .ok (.aload_n 0, 1) := by decide +kernel
theorem dX3_copyFrom_21 : decode cX3_copyFrom 21 = .ok (.getfield 15, 3) := by decide +kernel
theorem dX3_copyFrom_24 : decode cX3_copyFrom 24 = .ok (.iconst 0, 1) := by decide +kernel
theorem dX3_copyFrom_25 : decode cX3_copyFrom 25 = .ok (.bipush 9, 2) := by decide +kernel
theorem dX3_copyFrom_27 : decode cX3_copyFrom 27 = .ok (.invokestatic 28, 3) := by decide +kernel
theorem dX3_copyFrom_30 : decode cX3_copyFrom 30 = .ok (.aload_n 1, 1) := by decide +kernel
theorem dX3_copyFrom_31 : decode cX3_copyFrom 31 = .ok (.getfield 18, 3) := by decide +kernel
theorem dX3_copyFrom_34 : decode cX3_copyFrom 34 = .ok (.iconst 0, 1) := by decide +kernel
theorem dX3_copyFrom_35 : decode cX3_copyFrom 35 = .ok (.aload_n 0, 1) := by decide +kernel
theorem dX3_copyFrom_36 : decode cX3_copyFrom 36 = .ok (.getfield 18, 3) := by decide +kernel
theorem dX3_copyFrom_39 : decode cX3_copyFrom 39 = .ok (.iconst 0, 1) := by decide +kernel
theorem dX3_copyFrom_40 : decode cX3_copyFrom 40 = .ok (.iconst 4, 1) := by decide +kernel
theorem dX3_copyFrom_41 : decode cX3_copyFrom 41 = .ok (.invokestatic 28, 3) := by decide +kernel
theorem dX3_copyFrom_44 : decode cX3_copyFrom 44 = .ok (.aload_n 0, 1) := by decide +kernel
theorem dX3_copyFrom_45 : decode cX3_copyFrom 45 = .ok (.aload_n 1, 1) := by decide +kernel
theorem dX3_copyFrom_46 : decode cX3_copyFrom 46 = .ok (.getfield 34, 3) := by decide +kernel
theorem dX3_copyFrom_49 : decode cX3_copyFrom 49 = .ok (.putfield 34, 3) := by decide +kernel
theorem dX3_copyFrom_52 : decode cX3_copyFrom 52 = .ok (.aload_n 1, 1) := by decide +kernel
theorem dX3_copyFrom_53 : decode cX3_copyFrom 53 = .ok (.getfield 21, 3) := by decide +kernel
theorem dX3_copyFrom_56 : decode cX3_copyFrom 56 = .ok (.iconst 0, 1) := by decide +kernel
theorem dX3_copyFrom_57 : decode cX3_copyFrom 57 = .ok (.aload_n 0, 1) := by decide +kernel
theorem dX3_copyFrom_58 : decode cX3_copyFrom 58 = .ok (.getfield 21, 3) := by decide +kernel
theorem dX3_copyFrom_61 : decode cX3_copyFrom 61 = .ok (.iconst 0, 1) := by decide +kernel
theorem dX3_copyFrom_62 : decode cX3_copyFrom 62 = .ok (.bipush 24, 2) := by decide +kernel
theorem dX3_copyFrom_64 : decode cX3_copyFrom 64 = .ok (.invokestatic 28, 3) := by decide +kernel
theorem dX3_copyFrom_67 : decode cX3_copyFrom 67 = .ok (.aload_n 0, 1) := by decide +kernel
theorem dX3_copyFrom_68 : decode cX3_copyFrom 68 = .ok (.aload_n 1, 1) := by decide +kernel
theorem dX3_copyFrom_69 : decode cX3_copyFrom 69 = .ok (.getfield 38, 3) := by decide +kernel
theorem dX3_copyFrom_72 : decode cX3_copyFrom 72 = .ok (.putfield 38, 3) := by decide +kernel
theorem dX3_copyFrom_75 : decode cX3_copyFrom 75 = .ok (.aload_n 0, 1) := by decide +kernel
theorem dX3_copyFrom_76 : decode cX3_copyFrom 76 = .ok (.aload_n 1, 1) := by decide +kernel
theorem dX3_copyFrom_77 : decode cX3_copyFrom 77 = .ok (.getfield 41, 3) := by decide +kernel
theorem dX3_copyFrom_80 : decode cX3_copyFrom 80 = .ok (.putfield 41, 3) := by decide +kernel
theorem dX3_copyFrom_83 : decode cX3_copyFrom 83 = .ok (.aload_n 0, 1) := by decide +kernel
theorem dX3_copyFrom_84 : decode cX3_copyFrom 84 = .ok (.aload_n 1, 1) := by decide +kernel
theorem dX3_copyFrom_85 : decode cX3_copyFrom 85 = .ok (.getfield 44, 3) := by decide +kernel
theorem dX3_copyFrom_88 : decode cX3_copyFrom 88 = .ok (.putfield 44, 3) := by decide +kernel
theorem dX3_copyFrom_91 : decode cX3_copyFrom 91 = .ok (.aload_n 0, 1) := by decide +kernel
theorem dX3_copyFrom_92 : decode cX3_copyFrom 92 = .ok (.aload_n 1, 1) := by decide +kernel
theorem dX3_copyFrom_93 : decode cX3_copyFrom 93 = .ok (.getfield 47, 3) := by decide +kernel
theorem dX3_copyFrom_96 : decode cX3_copyFrom 96 = .ok (.putfield 47, 3) := by decide +kernel
theorem dX3_copyFrom_99 : decode cX3_copyFrom 99 = .ok (.aload_n 0, 1) := by decide +kernel
theorem dX3_copyFrom_100 : decode cX3_copyFrom 100 = .ok (.aload_n 1, 1) := by decide +kernel
theorem dX3_copyFrom_101 : decode cX3_copyFrom 101 = .ok (.getfield 50, 3) := by decide +kernel
theorem dX3_copyFrom_104 : decode cX3_copyFrom 104 = .ok (.putfield 50, 3) := by decide +kernel
theorem dX3_copyFrom_107 : decode cX3_copyFrom 107 = .ok (.aload_n 0, 1) := by decide +kernel
theorem dX3_copyFrom_108 : decode cX3_copyFrom 108 = .ok (.aload_n 1, 1) := by decide +kernel
theorem dX3_copyFrom_109 : decode cX3_copyFrom 109 = .ok (.getfield 54, 3) := by decide +kernel
theorem dX3_copyFrom_112 : decode cX3_copyFrom 112 = .ok (.putfield 54, 3) := by decide +kernel
theorem dX3_copyFrom_115 : decode cX3_copyFrom 115 = .ok (.aload_n 0, 1) := by decide +kernel
theorem dX3_copyFrom_116 : decode cX3_copyFrom 116 = .ok (.aload_n 1, 1) := by decide +kernel
theorem dX3_copyFrom_117 : decode cX3_copyFrom 117 = .ok (.getfield 57, 3) := by decide +kernel
theorem dX3_copyFrom_120 : decode cX3_copyFrom 120 = .ok (.putfield 57, 3) := by decide +kernel
theorem dX3_copyFrom_123 : decode cX3_copyFrom 123 = .ok (.aload_n 0, 1) := by decide +kernel
theorem dX3_copyFrom_124 : decode cX3_copyFrom 124 = .ok (.aload_n 1, 1) := by decide +kernel
theorem dX3_copyFrom_125 : decode cX3_copyFrom 125 = .ok (.getfield 60, 3) := by decide +kernel
theorem dX3_copyFrom_128 : decode cX3_copyFrom 128 = .ok (.putfield 60, 3) := by decide +kernel
theorem dX3_copyFrom_131 : decode cX3_copyFrom 131 = .ok (.aload_n 0, 1) := by decide +kernel
theorem dX3_copyFrom_132 : decode cX3_copyFrom 132 = .ok (.aload_n 1, 1) := by decide +kernel
theorem dX3_copyFrom_133 : decode cX3_copyFrom 133 = .ok (.getfield 63, 3) := by decide +kernel
theorem dX3_copyFrom_136 : decode cX3_copyFrom 136 = .ok (.putfield 63, 3) := by decide +kernel
theorem dX3_copyFrom_139 : decode cX3_copyFrom 139 = .ok (.aload_n 0, 1) := by decide +kernel
theorem dX3_copyFrom_140 : decode cX3_copyFrom 140 = .ok (.aload_n 1, 1) := by decide +kernel
theorem dX3_copyFrom_141 : decode cX3_copyFrom 141 = .ok (.getfield 66, 3) := by decide +kernel
theorem dX3_copyFrom_144 : decode cX3_copyFrom 144 = .ok (.putfield 66, 3) := by decide +kernel
theorem dX3_copyFrom_147 : decode cX3_copyFrom 147 = .ok (.aload_n 0, 1) := by decide +kernel
theorem dX3_copyFrom_148 : decode cX3_copyFrom 148 = .ok (.aload_n 1, 1) := by decide +kernel
theorem dX3_copyFrom_149 : decode cX3_copyFrom 149 = .ok (.getfield 69, 3) := by decide +kernel
theorem dX3_copyFrom_152 : decode cX3_copyFrom 152 = .ok (.putfield 69, 3) := by decide +kernel
theorem dX3_copyFrom_155 : decode cX3_copyFrom 155 = .ok (.aload_n 0, 1) := by decide +kernel
theorem dX3_copyFrom_156 : decode cX3_copyFrom 156 = .ok (.aload_n 1, 1) := by decide +kernel
theorem dX3_copyFrom_157 : decode cX3_copyFrom 157 = .ok (.getfield 72, 3) := by decide +kernel
theorem dX3_copyFrom_160 : decode cX3_copyFrom 160 = .ok (.putfield 72, 3) := by decide +kernel
theorem dX3_copyFrom_163 : decode cX3_copyFrom 163 = .ok (.return_, 1) := by decide +kernel
theorem dX3_number_0 : decode cX3_number 0 = .ok (.iload_n 1, 1) := by decide +kernel
theorem dX3_number_1 : decode cX3_number 1 = .ok (.tableswitch 138 5 17 #[67, 72, 77, 82, 87, 95, 103, 108, 113, 118, 123, 128, 133], 67) := by decide +kernel
theorem dX3_number_68 : decode cX3_number 68 = .ok (.aload_n 0, 1) := by decide +kernel
theorem dX3_number_69 : decode cX3_number 69 = .ok (.getfield 41, 3) := by decide +kernel
theorem dX3_number_72 : decode cX3_number 72 = .ok (.ireturn, 1) := by decide +kernel
theorem dX3_number_73 : decode cX3_number 73 = .ok (.aload_n 0, 1) := by decide +kernel
theorem dX3_number_74 : decode cX3_number 74 = .ok (.getfield 44, 3) := by decide +kernel
theorem dX3_number_77 : decode cX3_number 77 = .ok (.ireturn, 1) := by decide +kernel
theorem dX3_number_78 : decode cX3_number 78 = .ok (.aload_n 0, 1) := by decide +kernel
theorem dX3_number_79 : decode cX3_number 79 = .ok (.getfield 38, 3) := by decide +kernel
theorem dX3_number_82 : decode cX3_number 82 = .ok (.ireturn, 1) := by decide +kernel
theorem dX3_number_83 : decode cX3_number 83 = .ok (.aload_n 0, 1) := by decide +kernel
theorem dX3_number_84 : decode cX3_number 84 = .ok (.getfield 47, 3) := by decide +kernel
theorem dX3_number_87 : decode cX3_number 87 = .ok (.ireturn, 1) := by decide +kernel
theorem dX3_number_88 : decode cX3_number 88 = .ok (.aload_n 0, 1) := by decide +kernel
theorem dX3_number_89 : decode cX3_number 89 = .ok (.getfield 50, 3) := by decide +kernel
theorem dX3_number_92 : decode cX3_number 92 = .ok (.invokestatic 75, 3) := by decide +kernel
theorem dX3_number_95 : decode cX3_number 95 = .ok (.ireturn, 1) := by decide +kernel
theorem dX3_number_96 : decode cX3_number 96 = .ok (.aload_n 0, 1) := by decide +kernel
theorem dX3_number_97 : decode cX3_number 97 = .ok (.getfield 54, 3) := by decide +kernel
theorem dX3_number_100 : decode cX3_number 100 = .ok (.invokestatic 75, 3) := by decide +kernel
theorem dX3_number_103 : decode cX3_number 103 = .ok (.ireturn, 1) := by decide +kernel
theorem dX3_number_104 : decode cX3_number 104 = .ok (.aload_n 0, 1) := by decide +kernel
theorem dX3_number_105 : decode cX3_number 105 = .ok (.getfield 57, 3) := by decide +kernel
theorem dX3_number_108 : decode cX3_number 108 = .ok (.ireturn, 1) := by decide +kernel
theorem dX3_number_109 : decode cX3_number 109 = .ok (.aload_n 0, 1) := by decide +kernel
theorem dX3_number_110 : decode cX3_number 110 = .ok (.getfield 60, 3) := by decide +kernel
theorem dX3_number_113 : decode cX3_number 113 = .ok (.ireturn, 1) := by decide +kernel
theorem dX3_number_114 : decode cX3_number 114 = .ok (.aload_n 0, 1) := by decide +kernel
theorem dX3_number_115 : decode cX3_number 115 = .ok (.getfield 63, 3) := by decide +kernel
theorem dX3_number_118 : decode cX3_number 118 = .ok (.ireturn, 1) := by decide +kernel
theorem dX3_number_119 : decode cX3_number 119 = .ok (.aload_n 0, 1) := by decide +kernel
theorem dX3_number_120 : decode cX3_number 120 = .ok (.getfield 66, 3) := by decide +kernel
theorem dX3_number_123 : decode cX3_number 123 = .ok (.ireturn, 1) := by decide +kernel
theorem dX3_number_124 : decode cX3_number 124 = .ok (.aload_n 0, 1) := by decide +kernel
theorem dX3_number_125 : decode cX3_number 125 = .ok (.getfield 69, 3) := by decide +kernel
theorem dX3_number_128 : decode cX3_number 128 = .ok (.ireturn, 1) := by decide +kernel
theorem dX3_number_129 : decode cX3_number 129 = .ok (.aload_n 0, 1) := by decide +kernel
theorem dX3_number_130 : decode cX3_number 130 = .ok (.getfield 72, 3) := by decide +kernel
theorem dX3_number_133 : decode cX3_number 133 = .ok (.ireturn, 1) := by decide +kernel
theorem dX3_number_134 : decode cX3_number 134 = .ok (.aload_n 0, 1) := by decide +kernel
theorem dX3_number_135 : decode cX3_number 135 = .ok (.invokevirtual 79, 3) := by decide +kernel
theorem dX3_number_138 : decode cX3_number 138 = .ok (.ireturn, 1) := by decide +kernel
theorem dX3_number_139 : decode cX3_number 139 = .ok (.bipush (-2), 2) := by decide +kernel
theorem dX3_number_141 : decode cX3_number 141 = .ok (.ireturn, 1) := by decide +kernel
theorem dX3_observed_0 : decode cX3_observed 0 = .ok (.iload_n 1, 1) := by decide +kernel
theorem dX3_observed_1 : decode cX3_observed 1 = .ok (.lookupswitch 37 #[(0, 27), (1, 32)], 27) := by decide +kernel
theorem dX3_observed_28 : decode cX3_observed 28 = .ok (.aload_n 0, 1) := by decide +kernel
theorem dX3_observed_29 : decode cX3_observed 29 = .ok (.getfield 57, 3) := by decide +kernel
theorem dX3_observed_32 : decode cX3_observed 32 = .ok (.ireturn, 1) := by decide +kernel
theorem dX3_observed_33 : decode cX3_observed 33 = .ok (.aload_n 0, 1) := by decide +kernel
theorem dX3_observed_34 : decode cX3_observed 34 = .ok (.getfield 63, 3) := by decide +kernel
theorem dX3_observed_37 : decode cX3_observed 37 = .ok (.ireturn, 1) := by decide +kernel
theorem dX3_observed_38 : decode cX3_observed 38 = .ok (.aload_n 0, 1) := by decide +kernel
theorem dX3_observed_39 : decode cX3_observed 39 = .ok (.getfield 60, 3) := by decide +kernel
theorem dX3_observed_42 : decode cX3_observed 42 = .ok (.ireturn, 1) := by decide +kernel
theorem dX3_bottleSet_0 : decode cX3_bottleSet 0 = .ok (.iconst 0, 1) := by decide +kernel
theorem dX3_bottleSet_1 : decode cX3_bottleSet 1 = .ok (.istore_n 1, 1) := by decide +kernel
theorem dX3_bottleSet_2 : decode cX3_bottleSet 2 = .ok (.iconst 0, 1) := by decide +kernel
theorem dX3_bottleSet_3 : decode cX3_bottleSet 3 = .ok (.istore_n 2, 1) := by decide +kernel
theorem dX3_bottleSet_4 : decode cX3_bottleSet 4 = .ok (.iload_n 2, 1) := by decide +kernel
theorem dX3_bottleSet_5 : decode cX3_bottleSet 5 = .ok (.aload_n 0, 1) := by decide +kernel
theorem dX3_bottleSet_6 : decode cX3_bottleSet 6 = .ok (.getfield 24, 3) := by decide +kernel
theorem dX3_bottleSet_9 : decode cX3_bottleSet 9 = .ok (.getfield 83, 3) := by decide +kernel
theorem dX3_bottleSet_12 : decode cX3_bottleSet 12 = .ok (.if_icmp .ge 24, 3) := by decide +kernel
theorem dX3_bottleSet_15 : decode cX3_bottleSet 15 = .ok (.aload_n 0, 1) := by decide +kernel
theorem dX3_bottleSet_16 : decode cX3_bottleSet 16 = .ok (.getfield 9, 3) := by decide +kernel
theorem dX3_bottleSet_19 : decode cX3_bottleSet 19 = .ok (.iload_n 2, 1) := by decide +kernel
theorem dX3_bottleSet_20 : decode cX3_bottleSet 20 = .ok (.iaload, 1) := by decide +kernel
theorem dX3_bottleSet_21 : decode cX3_bottleSet 21 = .ok (.ifCond .eq 9, 3) := by decide +kernel
theorem dX3_bottleSet_24 : decode cX3_bottleSet 24 = .ok (.iload_n 1, 1) := by decide +kernel
theorem dX3_bottleSet_25 : decode cX3_bottleSet 25 = .ok (.iconst 1, 1) := by decide +kernel
theorem dX3_bottleSet_26 : decode cX3_bottleSet 26 = .ok (.iload_n 2, 1) := by decide +kernel
theorem dX3_bottleSet_27 : decode cX3_bottleSet 27 = .ok (.ishl, 1) := by decide +kernel
theorem dX3_bottleSet_28 : decode cX3_bottleSet 28 = .ok (.ior, 1) := by decide +kernel
theorem dX3_bottleSet_29 : decode cX3_bottleSet 29 = .ok (.istore_n 1, 1) := by decide +kernel
theorem dX3_bottleSet_30 : decode cX3_bottleSet 30 = .ok (.iinc 2 1, 3) := by decide +kernel
theorem dX3_bottleSet_33 : decode cX3_bottleSet 33 = .ok (.goto (-29), 3) := by decide +kernel
theorem dX3_bottleSet_36 : decode cX3_bottleSet 36 = .ok (.iload_n 1, 1) := by decide +kernel
theorem dX3_bottleSet_37 : decode cX3_bottleSet 37 = .ok (.ireturn, 1) := by decide +kernel
theorem dX3_countMarks_0 : decode cX3_countMarks 0 = .ok (.iconst 0, 1) := by decide +kernel
theorem dX3_countMarks_1 : decode cX3_countMarks 1 = .ok (.istore_n 1, 1) := by decide +kernel
theorem dX3_countMarks_2 : decode cX3_countMarks 2 = .ok (.iconst 0, 1) := by decide +kernel
theorem dX3_countMarks_3 : decode cX3_countMarks 3 = .ok (.istore_n 2, 1) := by decide +kernel
theorem dX3_countMarks_4 : decode cX3_countMarks 4 = .ok (.iload_n 2, 1) := by decide +kernel
theorem dX3_countMarks_5 : decode cX3_countMarks 5 = .ok (.aload_n 0, 1) := by decide +kernel
theorem dX3_countMarks_6 : decode cX3_countMarks 6 = .ok (.getfield 24, 3) := by decide +kernel
theorem dX3_countMarks_9 : decode cX3_countMarks 9 = .ok (.getfield 83, 3) := by decide +kernel
theorem dX3_countMarks_12 : decode cX3_countMarks 12 = .ok (.if_icmp .ge 29, 3) := by decide +kernel
theorem dX3_countMarks_15 : decode cX3_countMarks 15 = .ok (.iload_n 1, 1) := by decide +kernel
theorem dX3_countMarks_16 : decode cX3_countMarks 16 = .ok (.aload_n 0, 1) := by decide +kernel
theorem dX3_countMarks_17 : decode cX3_countMarks 17 = .ok (.getfield 15, 3) := by decide +kernel
theorem dX3_countMarks_20 : decode cX3_countMarks 20 = .ok (.iload_n 2, 1) := by decide +kernel
theorem dX3_countMarks_21 : decode cX3_countMarks 21 = .ok (.iaload, 1) := by decide +kernel
theorem dX3_countMarks_22 : decode cX3_countMarks 22 = .ok (.ifCond .eq 7, 3) := by decide +kernel
theorem dX3_countMarks_25 : decode cX3_countMarks 25 = .ok (.iconst 1, 1) := by decide +kernel
theorem dX3_countMarks_26 : decode cX3_countMarks 26 = .ok (.goto 4, 3) := by decide +kernel
theorem dX3_countMarks_29 : decode cX3_countMarks 29 = .ok (.iconst 0, 1) := by decide +kernel
theorem dX3_countMarks_30 : decode cX3_countMarks 30 = .ok (.invokestatic 75, 3) := by decide +kernel
theorem dX3_countMarks_33 : decode cX3_countMarks 33 = .ok (.iadd, 1) := by decide +kernel
theorem dX3_countMarks_34 : decode cX3_countMarks 34 = .ok (.istore_n 1, 1) := by decide +kernel
theorem dX3_countMarks_35 : decode cX3_countMarks 35 = .ok (.iinc 2 1, 3) := by decide +kernel
theorem dX3_countMarks_38 : decode cX3_countMarks 38 = .ok (.goto (-34), 3) := by decide +kernel
theorem dX3_countMarks_41 : decode cX3_countMarks 41 = .ok (.iload_n 1, 1) := by decide +kernel
theorem dX3_countMarks_42 : decode cX3_countMarks 42 = .ok (.ireturn, 1) := by decide +kernel
theorem dX3_stock_0 : decode cX3_stock 0 = .ok (.iload_n 1, 1) := by decide +kernel
theorem dX3_stock_1 : decode cX3_stock 1 = .ok (.ifCond .eq 10, 3) := by decide +kernel
theorem dX3_stock_4 : decode cX3_stock 4 = .ok (.aload_n 0, 1) := by decide +kernel
theorem dX3_stock_5 : decode cX3_stock 5 = .ok (.getfield 44, 3) := by decide +kernel
theorem dX3_stock_8 : decode cX3_stock 8 = .ok (.goto 7, 3) := by decide +kernel
theorem dX3_stock_11 : decode cX3_stock 11 = .ok (.aload_n 0, 1) := by decide +kernel
theorem dX3_stock_12 : decode cX3_stock 12 = .ok (.getfield 41, 3) := by decide +kernel
theorem dX3_stock_15 : decode cX3_stock 15 = .ok (.ireturn, 1) := by decide +kernel
theorem dX3_addStock_0 : decode cX3_addStock 0 = .ok (.iload_n 1, 1) := by decide +kernel
theorem dX3_addStock_1 : decode cX3_addStock 1 = .ok (.ifCond .eq 21, 3) := by decide +kernel
theorem dX3_addStock_4 : decode cX3_addStock 4 = .ok (.aload_n 0, 1) := by decide +kernel
theorem dX3_addStock_5 : decode cX3_addStock 5 = .ok (.bipush 99, 2) := by decide +kernel
theorem dX3_addStock_7 : decode cX3_addStock 7 = .ok (.aload_n 0, 1) := by decide +kernel
theorem dX3_addStock_8 : decode cX3_addStock 8 = .ok (.getfield 44, 3) := by decide +kernel
theorem dX3_addStock_11 : decode cX3_addStock 11 = .ok (.iload_n 2, 1) := by decide +kernel
theorem dX3_addStock_12 : decode cX3_addStock 12 = .ok (.iadd, 1) := by decide +kernel
theorem dX3_addStock_13 : decode cX3_addStock 13 = .ok (.invokestatic 88, 3) := by decide +kernel
theorem dX3_addStock_16 : decode cX3_addStock 16 = .ok (.putfield 44, 3) := by decide +kernel
theorem dX3_addStock_19 : decode cX3_addStock 19 = .ok (.goto 18, 3) := by decide +kernel
theorem dX3_addStock_22 : decode cX3_addStock 22 = .ok (.aload_n 0, 1) := by decide +kernel
theorem dX3_addStock_23 : decode cX3_addStock 23 = .ok (.bipush 99, 2) := by decide +kernel
theorem dX3_addStock_25 : decode cX3_addStock 25 = .ok (.aload_n 0, 1) := by decide +kernel
theorem dX3_addStock_26 : decode cX3_addStock 26 = .ok (.getfield 41, 3) := by decide +kernel
theorem dX3_addStock_29 : decode cX3_addStock 29 = .ok (.iload_n 2, 1) := by decide +kernel
theorem dX3_addStock_30 : decode cX3_addStock 30 = .ok (.iadd, 1) := by decide +kernel
theorem dX3_addStock_31 : decode cX3_addStock 31 = .ok (.invokestatic 88, 3) := by decide +kernel
theorem dX3_addStock_34 : decode cX3_addStock 34 = .ok (.putfield 41, 3) := by decide +kernel
theorem dX3_addStock_37 : decode cX3_addStock 37 = .ok (.return_, 1) := by decide +kernel
theorem dX3_addEntry_0 : decode cX3_addEntry 0 = .ok (.aload_n 0, 1) := by decide +kernel
theorem dX3_addEntry_1 : decode cX3_addEntry 1 = .ok (.getfield 38, 3) := by decide +kernel
theorem dX3_addEntry_4 : decode cX3_addEntry 4 = .ok (.bipush 24, 2) := by decide +kernel
theorem dX3_addEntry_6 : decode cX3_addEntry 6 = .ok (.if_icmp .ge 23, 3) := by decide +kernel
theorem dX3_addEntry_9 : decode cX3_addEntry 9 = .ok (.aload_n 0, 1) := by decide +kernel
theorem dX3_addEntry_10 : decode cX3_addEntry 10 = .ok (.getfield 21, 3) := by decide +kernel
theorem dX3_addEntry_13 : decode cX3_addEntry 13 = .ok (.aload_n 0, 1) := by decide +kernel
theorem dX3_addEntry_14 : decode cX3_addEntry 14 = .ok (.getfield 38, 3) := by decide +kernel
theorem dX3_addEntry_17 : decode cX3_addEntry 17 = .ok (.iload_n 1, 1) := by decide +kernel
theorem dX3_addEntry_18 : decode cX3_addEntry 18 = .ok (.iastore, 1) := by decide +kernel
theorem dX3_addEntry_19 : decode cX3_addEntry 19 = .ok (.aload_n 0, 1) := by decide +kernel
theorem dX3_addEntry_20 : decode cX3_addEntry 20 = .ok (.dup, 1) := by decide +kernel
theorem dX3_addEntry_21 : decode cX3_addEntry 21 = .ok (.getfield 38, 3) := by decide +kernel
theorem dX3_addEntry_24 : decode cX3_addEntry 24 = .ok (.iconst 1, 1) := by decide +kernel
theorem dX3_addEntry_25 : decode cX3_addEntry 25 = .ok (.iadd, 1) := by decide +kernel
theorem dX3_addEntry_26 : decode cX3_addEntry 26 = .ok (.putfield 38, 3) := by decide +kernel
theorem dX3_addEntry_29 : decode cX3_addEntry 29 = .ok (.return_, 1) := by decide +kernel
theorem dX3_nextValve_0 : decode cX3_nextValve 0 = .ok (.aload_n 0, 1) := by decide +kernel
theorem dX3_nextValve_1 : decode cX3_nextValve 1 = .ok (.getfield 24, 3) := by decide +kernel
theorem dX3_nextValve_4 : decode cX3_nextValve 4 = .ok (.getfield 94, 3) := by decide +kernel
theorem dX3_nextValve_7 : decode cX3_nextValve 7 = .ok (.ifCond .ne 8, 3) := by decide +kernel
theorem dX3_nextValve_10 : decode cX3_nextValve 10 = .ok (.bipush (-9), 2) := by decide +kernel
theorem dX3_nextValve_12 : decode cX3_nextValve 12 = .ok (.goto 17, 3) := by decide +kernel
theorem dX3_nextValve_15 : decode cX3_nextValve 15 = .ok (.aload_n 0, 1) := by decide +kernel
theorem dX3_nextValve_16 : decode cX3_nextValve 16 = .ok (.getfield 47, 3) := by decide +kernel
theorem dX3_nextValve_19 : decode cX3_nextValve 19 = .ok (.aload_n 0, 1) := by decide +kernel
theorem dX3_nextValve_20 : decode cX3_nextValve 20 = .ok (.getfield 24, 3) := by decide +kernel
theorem dX3_nextValve_23 : decode cX3_nextValve 23 = .ok (.getfield 94, 3) := by decide +kernel
theorem dX3_nextValve_26 : decode cX3_nextValve 26 = .ok (.invokestatic 97, 3) := by decide +kernel
theorem dX3_nextValve_29 : decode cX3_nextValve 29 = .ok (.ireturn, 1) := by decide +kernel
theorem dX3_moveMarks_0 : decode cX3_moveMarks 0 = .ok (.aload_n 0, 1) := by decide +kernel
theorem dX3_moveMarks_1 : decode cX3_moveMarks 1 = .ok (.getfield 15, 3) := by decide +kernel
theorem dX3_moveMarks_4 : decode cX3_moveMarks 4 = .ok (.iconst 0, 1) := by decide +kernel
theorem dX3_moveMarks_5 : decode cX3_moveMarks 5 = .ok (.aload_n 0, 1) := by decide +kernel
theorem dX3_moveMarks_6 : decode cX3_moveMarks 6 = .ok (.getfield 15, 3) := by decide +kernel
theorem dX3_moveMarks_9 : decode cX3_moveMarks 9 = .ok (.iconst 1, 1) := by decide +kernel
theorem dX3_moveMarks_10 : decode cX3_moveMarks 10 = .ok (.aload_n 0, 1) := by decide +kernel
theorem dX3_moveMarks_11 : decode cX3_moveMarks 11 = .ok (.getfield 24, 3) := by decide +kernel
theorem dX3_moveMarks_14 : decode cX3_moveMarks 14 = .ok (.getfield 83, 3) := by decide +kernel
theorem dX3_moveMarks_17 : decode cX3_moveMarks 17 = .ok (.iconst 1, 1) := by decide +kernel
theorem dX3_moveMarks_18 : decode cX3_moveMarks 18 = .ok (.isub, 1) := by decide +kernel
theorem dX3_moveMarks_19 : decode cX3_moveMarks 19 = .ok (.invokestatic 28, 3) := by decide +kernel
theorem dX3_moveMarks_22 : decode cX3_moveMarks 22 = .ok (.aload_n 0, 1) := by decide +kernel
theorem dX3_moveMarks_23 : decode cX3_moveMarks 23 = .ok (.getfield 15, 3) := by decide +kernel
theorem dX3_moveMarks_26 : decode cX3_moveMarks 26 = .ok (.iconst 0, 1) := by decide +kernel
theorem dX3_moveMarks_27 : decode cX3_moveMarks 27 = .ok (.iconst 0, 1) := by decide +kernel
theorem dX3_moveMarks_28 : decode cX3_moveMarks 28 = .ok (.iastore, 1) := by decide +kernel
theorem dX3_moveMarks_29 : decode cX3_moveMarks 29 = .ok (.return_, 1) := by decide +kernel
theorem dX3_endAlarm_0 : decode cX3_endAlarm 0 = .ok (.aload_n 0, 1) := by decide +kernel
theorem dX3_endAlarm_1 : decode cX3_endAlarm 1 = .ok (.getfield 24, 3) := by decide +kernel
theorem dX3_endAlarm_4 : decode cX3_endAlarm 4 = .ok (.getfield 100, 3) := by decide +kernel
theorem dX3_endAlarm_7 : decode cX3_endAlarm 7 = .ok (.iconst 4, 1) := by decide +kernel
theorem dX3_endAlarm_8 : decode cX3_endAlarm 8 = .ok (.iaload, 1) := by decide +kernel
theorem dX3_endAlarm_9 : decode cX3_endAlarm 9 = .ok (.istore_n 1, 1) := by decide +kernel
theorem dX3_endAlarm_10 : decode cX3_endAlarm 10 = .ok (.aload_n 0, 1) := by decide +kernel
theorem dX3_endAlarm_11 : decode cX3_endAlarm 11 = .ok (.getfield 9, 3) := by decide +kernel
theorem dX3_endAlarm_14 : decode cX3_endAlarm 14 = .ok (.iload_n 1, 1) := by decide +kernel
theorem dX3_endAlarm_15 : decode cX3_endAlarm 15 = .ok (.iaload, 1) := by decide +kernel
theorem dX3_endAlarm_16 : decode cX3_endAlarm 16 = .ok (.ifCond .eq 7, 3) := by decide +kernel
theorem dX3_endAlarm_19 : decode cX3_endAlarm 19 = .ok (.iconst 1, 1) := by decide +kernel
theorem dX3_endAlarm_20 : decode cX3_endAlarm 20 = .ok (.goto 4, 3) := by decide +kernel
theorem dX3_endAlarm_23 : decode cX3_endAlarm 23 = .ok (.iconst 0, 1) := by decide +kernel
theorem dX3_endAlarm_24 : decode cX3_endAlarm 24 = .ok (.istore_n 2, 1) := by decide +kernel
theorem dX3_endAlarm_25 : decode cX3_endAlarm 25 = .ok (.iload_n 2, 1) := by decide +kernel
theorem dX3_endAlarm_26 : decode cX3_endAlarm 26 = .ok (.ifCond .eq 20, 3) := by decide +kernel
theorem dX3_endAlarm_29 : decode cX3_endAlarm 29 = .ok (.aload_n 0, 1) := by decide +kernel
theorem dX3_endAlarm_30 : decode cX3_endAlarm 30 = .ok (.getfield 9, 3) := by decide +kernel
theorem dX3_endAlarm_33 : decode cX3_endAlarm 33 = .ok (.iload_n 1, 1) := by decide +kernel
theorem dX3_endAlarm_34 : decode cX3_endAlarm 34 = .ok (.iconst 0, 1) := by decide +kernel
theorem dX3_endAlarm_35 : decode cX3_endAlarm 35 = .ok (.iastore, 1) := by decide +kernel
theorem dX3_endAlarm_36 : decode cX3_endAlarm 36 = .ok (.aload_n 0, 1) := by decide +kernel
theorem dX3_endAlarm_37 : decode cX3_endAlarm 37 = .ok (.dup, 1) := by decide +kernel
theorem dX3_endAlarm_38 : decode cX3_endAlarm 38 = .ok (.getfield 69, 3) := by decide +kernel
theorem dX3_endAlarm_41 : decode cX3_endAlarm 41 = .ok (.iconst 1, 1) := by decide +kernel
theorem dX3_endAlarm_42 : decode cX3_endAlarm 42 = .ok (.iadd, 1) := by decide +kernel
theorem dX3_endAlarm_43 : decode cX3_endAlarm 43 = .ok (.putfield 69, 3) := by decide +kernel
theorem dX3_endAlarm_46 : decode cX3_endAlarm 46 = .ok (.aload_n 0, 1) := by decide +kernel
theorem dX3_endAlarm_47 : decode cX3_endAlarm 47 = .ok (.getfield 15, 3) := by decide +kernel
theorem dX3_endAlarm_50 : decode cX3_endAlarm 50 = .ok (.iload_n 1, 1) := by decide +kernel
theorem dX3_endAlarm_51 : decode cX3_endAlarm 51 = .ok (.iconst 0, 1) := by decide +kernel
theorem dX3_endAlarm_52 : decode cX3_endAlarm 52 = .ok (.iastore, 1) := by decide +kernel
theorem dX3_endAlarm_53 : decode cX3_endAlarm 53 = .ok (.aload_n 0, 1) := by decide +kernel
theorem dX3_endAlarm_54 : decode cX3_endAlarm 54 = .ok (.iconst 0, 1) := by decide +kernel
theorem dX3_endAlarm_55 : decode cX3_endAlarm 55 = .ok (.putfield 50, 3) := by decide +kernel
theorem dX3_endAlarm_58 : decode cX3_endAlarm 58 = .ok (.iload_n 2, 1) := by decide +kernel
theorem dX3_endAlarm_59 : decode cX3_endAlarm 59 = .ok (.ireturn, 1) := by decide +kernel
theorem dX3_markBeforeScale_0 : decode cX3_markBeforeScale 0 = .ok (.iconst 0, 1) := by decide +kernel
theorem dX3_markBeforeScale_1 : decode cX3_markBeforeScale 1 = .ok (.istore_n 1, 1) := by decide +kernel
theorem dX3_markBeforeScale_2 : decode cX3_markBeforeScale 2 = .ok (.iload_n 1, 1) := by decide +kernel
theorem dX3_markBeforeScale_3 : decode cX3_markBeforeScale 3 = .ok (.aload_n 0, 1) := by decide +kernel
theorem dX3_markBeforeScale_4 : decode cX3_markBeforeScale 4 = .ok (.getfield 24, 3) := by decide +kernel
theorem dX3_markBeforeScale_7 : decode cX3_markBeforeScale 7 = .ok (.getfield 100, 3) := by decide +kernel
theorem dX3_markBeforeScale_10 : decode cX3_markBeforeScale 10 = .ok (.iconst 0, 1) := by decide +kernel
theorem dX3_markBeforeScale_11 : decode cX3_markBeforeScale 11 = .ok (.iaload, 1) := by decide +kernel
theorem dX3_markBeforeScale_12 : decode cX3_markBeforeScale 12 = .ok (.if_icmp .gt 25, 3) := by decide +kernel
theorem dX3_markBeforeScale_15 : decode cX3_markBeforeScale 15 = .ok (.aload_n 0, 1) := by decide +kernel
theorem dX3_markBeforeScale_16 : decode cX3_markBeforeScale 16 = .ok (.getfield 9, 3) := by decide +kernel
theorem dX3_markBeforeScale_19 : decode cX3_markBeforeScale 19 = .ok (.iload_n 1, 1) := by decide +kernel
theorem dX3_markBeforeScale_20 : decode cX3_markBeforeScale 20 = .ok (.iaload, 1) := by decide +kernel
theorem dX3_markBeforeScale_21 : decode cX3_markBeforeScale 21 = .ok (.ifCond .eq 10, 3) := by decide +kernel
theorem dX3_markBeforeScale_24 : decode cX3_markBeforeScale 24 = .ok (.aload_n 0, 1) := by decide +kernel
theorem dX3_markBeforeScale_25 : decode cX3_markBeforeScale 25 = .ok (.getfield 15, 3) := by decide +kernel
theorem dX3_markBeforeScale_28 : decode cX3_markBeforeScale 28 = .ok (.iload_n 1, 1) := by decide +kernel
theorem dX3_markBeforeScale_29 : decode cX3_markBeforeScale 29 = .ok (.iconst 1, 1) := by decide +kernel
theorem dX3_markBeforeScale_30 : decode cX3_markBeforeScale 30 = .ok (.iastore, 1) := by decide +kernel
theorem dX3_markBeforeScale_31 : decode cX3_markBeforeScale 31 = .ok (.iinc 1 1, 3) := by decide +kernel
theorem dX3_markBeforeScale_34 : decode cX3_markBeforeScale 34 = .ok (.goto (-32), 3) := by decide +kernel
theorem dX3_markBeforeScale_37 : decode cX3_markBeforeScale 37 = .ok (.return_, 1) := by decide +kernel
theorem dX3_advance_0 : decode cX3_advance 0 = .ok (.iconst 0, 1) := by decide +kernel
theorem dX3_advance_1 : decode cX3_advance 1 = .ok (.istore_n 2, 1) := by decide +kernel
theorem dX3_advance_2 : decode cX3_advance 2 = .ok (.iload_n 2, 1) := by decide +kernel
theorem dX3_advance_3 : decode cX3_advance 3 = .ok (.iload_n 1, 1) := by decide +kernel
theorem dX3_advance_4 : decode cX3_advance 4 = .ok (.if_icmp .ge 58, 3) := by decide +kernel
theorem dX3_advance_7 : decode cX3_advance 7 = .ok (.aload_n 0, 1) := by decide +kernel
theorem dX3_advance_8 : decode cX3_advance 8 = .ok (.getfield 50, 3) := by decide +kernel
theorem dX3_advance_11 : decode cX3_advance 11 = .ok (.ifCond .ne 51, 3) := by decide +kernel
theorem dX3_advance_14 : decode cX3_advance 14 = .ok (.aload_n 0, 1) := by decide +kernel
theorem dX3_advance_15 : decode cX3_advance 15 = .ok (.invokevirtual 105, 3) := by decide +kernel
theorem dX3_advance_18 : decode cX3_advance 18 = .ok (.aload_n 0, 1) := by decide +kernel
theorem dX3_advance_19 : decode cX3_advance 19 = .ok (.invokevirtual 108, 3) := by decide +kernel
theorem dX3_advance_22 : decode cX3_advance 22 = .ok (.aload_n 0, 1) := by decide +kernel
theorem dX3_advance_23 : decode cX3_advance 23 = .ok (.invokevirtual 111, 3) := by decide +kernel
theorem dX3_advance_26 : decode cX3_advance 26 = .ok (.aload_n 0, 1) := by decide +kernel
theorem dX3_advance_27 : decode cX3_advance 27 = .ok (.invokevirtual 114, 3) := by decide +kernel
theorem dX3_advance_30 : decode cX3_advance 30 = .ok (.aload_n 0, 1) := by decide +kernel
theorem dX3_advance_31 : decode cX3_advance 31 = .ok (.invokevirtual 117, 3) := by decide +kernel
theorem dX3_advance_34 : decode cX3_advance 34 = .ok (.aload_n 0, 1) := by decide +kernel
theorem dX3_advance_35 : decode cX3_advance 35 = .ok (.invokevirtual 120, 3) := by decide +kernel
theorem dX3_advance_38 : decode cX3_advance 38 = .ok (.aload_n 0, 1) := by decide +kernel
theorem dX3_advance_39 : decode cX3_advance 39 = .ok (.invokevirtual 123, 3) := by decide +kernel
theorem dX3_advance_42 : decode cX3_advance 42 = .ok (.aload_n 0, 1) := by decide +kernel
theorem dX3_advance_43 : decode cX3_advance 43 = .ok (.invokevirtual 126, 3) := by decide +kernel
theorem dX3_advance_46 : decode cX3_advance 46 = .ok (.aload_n 0, 1) := by decide +kernel
theorem dX3_advance_47 : decode cX3_advance 47 = .ok (.dup, 1) := by decide +kernel
theorem dX3_advance_48 : decode cX3_advance 48 = .ok (.getfield 47, 3) := by decide +kernel
theorem dX3_advance_51 : decode cX3_advance 51 = .ok (.iconst 1, 1) := by decide +kernel
theorem dX3_advance_52 : decode cX3_advance 52 = .ok (.iadd, 1) := by decide +kernel
theorem dX3_advance_53 : decode cX3_advance 53 = .ok (.putfield 47, 3) := by decide +kernel
theorem dX3_advance_56 : decode cX3_advance 56 = .ok (.iinc 2 1, 3) := by decide +kernel
theorem dX3_advance_59 : decode cX3_advance 59 = .ok (.goto (-57), 3) := by decide +kernel
theorem dX3_advance_62 : decode cX3_advance 62 = .ok (.iload_n 2, 1) := by decide +kernel
theorem dX3_advance_63 : decode cX3_advance 63 = .ok (.ireturn, 1) := by decide +kernel
theorem dX3_leave_0 : decode cX3_leave 0 = .ok (.aload_n 0, 1) := by decide +kernel
theorem dX3_leave_1 : decode cX3_leave 1 = .ok (.getfield 9, 3) := by decide +kernel
theorem dX3_leave_4 : decode cX3_leave 4 = .ok (.aload_n 0, 1) := by decide +kernel
theorem dX3_leave_5 : decode cX3_leave 5 = .ok (.getfield 24, 3) := by decide +kernel
theorem dX3_leave_8 : decode cX3_leave 8 = .ok (.getfield 83, 3) := by decide +kernel
theorem dX3_leave_11 : decode cX3_leave 11 = .ok (.iconst 1, 1) := by decide +kernel
theorem dX3_leave_12 : decode cX3_leave 12 = .ok (.isub, 1) := by decide +kernel
theorem dX3_leave_13 : decode cX3_leave 13 = .ok (.iaload, 1) := by decide +kernel
theorem dX3_leave_14 : decode cX3_leave 14 = .ok (.istore_n 1, 1) := by decide +kernel
theorem dX3_leave_15 : decode cX3_leave 15 = .ok (.iload_n 1, 1) := by decide +kernel
theorem dX3_leave_16 : decode cX3_leave 16 = .ok (.ifCond .ne 4, 3) := by decide +kernel
theorem dX3_leave_19 : decode cX3_leave 19 = .ok (.return_, 1) := by decide +kernel
theorem dX3_leave_20 : decode cX3_leave 20 = .ok (.aload_n 0, 1) := by decide +kernel
theorem dX3_leave_21 : decode cX3_leave 21 = .ok (.getfield 24, 3) := by decide +kernel
theorem dX3_leave_24 : decode cX3_leave 24 = .ok (.iload_n 1, 1) := by decide +kernel
theorem dX3_leave_25 : decode cX3_leave 25 = .ok (.invokevirtual 129, 3) := by decide +kernel
theorem dX3_leave_28 : decode cX3_leave 28 = .ok (.ifCond .eq 16, 3) := by decide +kernel
theorem dX3_leave_31 : decode cX3_leave 31 = .ok (.aload_n 0, 1) := by decide +kernel
theorem dX3_leave_32 : decode cX3_leave 32 = .ok (.dup, 1) := by decide +kernel
theorem dX3_leave_33 : decode cX3_leave 33 = .ok (.getfield 57, 3) := by decide +kernel
theorem dX3_leave_36 : decode cX3_leave 36 = .ok (.iconst 1, 1) := by decide +kernel
theorem dX3_leave_37 : decode cX3_leave 37 = .ok (.iadd, 1) := by decide +kernel
theorem dX3_leave_38 : decode cX3_leave 38 = .ok (.putfield 57, 3) := by decide +kernel
theorem dX3_leave_41 : decode cX3_leave 41 = .ok (.goto 13, 3) := by decide +kernel
theorem dX3_leave_44 : decode cX3_leave 44 = .ok (.aload_n 0, 1) := by decide +kernel
theorem dX3_leave_45 : decode cX3_leave 45 = .ok (.dup, 1) := by decide +kernel
theorem dX3_leave_46 : decode cX3_leave 46 = .ok (.getfield 60, 3) := by decide +kernel
theorem dX3_leave_49 : decode cX3_leave 49 = .ok (.iconst 1, 1) := by decide +kernel
theorem dX3_leave_50 : decode cX3_leave 50 = .ok (.iadd, 1) := by decide +kernel
theorem dX3_leave_51 : decode cX3_leave 51 = .ok (.putfield 60, 3) := by decide +kernel
theorem dX3_leave_54 : decode cX3_leave 54 = .ok (.return_, 1) := by decide +kernel
theorem dX3_moveOn_0 : decode cX3_moveOn 0 = .ok (.aload_n 0, 1) := by decide +kernel
theorem dX3_moveOn_1 : decode cX3_moveOn 1 = .ok (.getfield 9, 3) := by decide +kernel
theorem dX3_moveOn_4 : decode cX3_moveOn 4 = .ok (.iconst 0, 1) := by decide +kernel
theorem dX3_moveOn_5 : decode cX3_moveOn 5 = .ok (.aload_n 0, 1) := by decide +kernel
theorem dX3_moveOn_6 : decode cX3_moveOn 6 = .ok (.getfield 9, 3) := by decide +kernel
theorem dX3_moveOn_9 : decode cX3_moveOn 9 = .ok (.iconst 1, 1) := by decide +kernel
theorem dX3_moveOn_10 : decode cX3_moveOn 10 = .ok (.aload_n 0, 1) := by decide +kernel
theorem dX3_moveOn_11 : decode cX3_moveOn 11 = .ok (.getfield 24, 3) := by decide +kernel
theorem dX3_moveOn_14 : decode cX3_moveOn 14 = .ok (.getfield 83, 3) := by decide +kernel
theorem dX3_moveOn_17 : decode cX3_moveOn 17 = .ok (.iconst 1, 1) := by decide +kernel
theorem dX3_moveOn_18 : decode cX3_moveOn 18 = .ok (.isub, 1) := by decide +kernel
theorem dX3_moveOn_19 : decode cX3_moveOn 19 = .ok (.invokestatic 28, 3) := by decide +kernel
theorem dX3_moveOn_22 : decode cX3_moveOn 22 = .ok (.aload_n 0, 1) := by decide +kernel
theorem dX3_moveOn_23 : decode cX3_moveOn 23 = .ok (.getfield 9, 3) := by decide +kernel
theorem dX3_moveOn_26 : decode cX3_moveOn 26 = .ok (.iconst 0, 1) := by decide +kernel
theorem dX3_moveOn_27 : decode cX3_moveOn 27 = .ok (.iconst 0, 1) := by decide +kernel
theorem dX3_moveOn_28 : decode cX3_moveOn 28 = .ok (.iastore, 1) := by decide +kernel
theorem dX3_moveOn_29 : decode cX3_moveOn 29 = .ok (.aload_n 0, 1) := by decide +kernel
theorem dX3_moveOn_30 : decode cX3_moveOn 30 = .ok (.invokevirtual 133, 3) := by decide +kernel
theorem dX3_moveOn_33 : decode cX3_moveOn 33 = .ok (.aload_n 0, 1) := by decide +kernel
theorem dX3_moveOn_34 : decode cX3_moveOn 34 = .ok (.getfield 38, 3) := by decide +kernel
theorem dX3_moveOn_37 : decode cX3_moveOn 37 = .ok (.ifCond .le 45, 3) := by decide +kernel
theorem dX3_moveOn_40 : decode cX3_moveOn 40 = .ok (.aload_n 0, 1) := by decide +kernel
theorem dX3_moveOn_41 : decode cX3_moveOn 41 = .ok (.getfield 9, 3) := by decide +kernel
theorem dX3_moveOn_44 : decode cX3_moveOn 44 = .ok (.iconst 0, 1) := by decide +kernel
theorem dX3_moveOn_45 : decode cX3_moveOn 45 = .ok (.aload_n 0, 1) := by decide +kernel
theorem dX3_moveOn_46 : decode cX3_moveOn 46 = .ok (.getfield 21, 3) := by decide +kernel
theorem dX3_moveOn_49 : decode cX3_moveOn 49 = .ok (.iconst 0, 1) := by decide +kernel
theorem dX3_moveOn_50 : decode cX3_moveOn 50 = .ok (.iaload, 1) := by decide +kernel
theorem dX3_moveOn_51 : decode cX3_moveOn 51 = .ok (.invokestatic 136, 3) := by decide +kernel
theorem dX3_moveOn_54 : decode cX3_moveOn 54 = .ok (.iastore, 1) := by decide +kernel
theorem dX3_moveOn_55 : decode cX3_moveOn 55 = .ok (.aload_n 0, 1) := by decide +kernel
theorem dX3_moveOn_56 : decode cX3_moveOn 56 = .ok (.dup, 1) := by decide +kernel
theorem dX3_moveOn_57 : decode cX3_moveOn 57 = .ok (.getfield 38, 3) := by decide +kernel
theorem dX3_moveOn_60 : decode cX3_moveOn 60 = .ok (.iconst 1, 1) := by decide +kernel
theorem dX3_moveOn_61 : decode cX3_moveOn 61 = .ok (.isub, 1) := by decide +kernel
theorem dX3_moveOn_62 : decode cX3_moveOn 62 = .ok (.putfield 38, 3) := by decide +kernel
theorem dX3_moveOn_65 : decode cX3_moveOn 65 = .ok (.aload_n 0, 1) := by decide +kernel
theorem dX3_moveOn_66 : decode cX3_moveOn 66 = .ok (.getfield 21, 3) := by decide +kernel
theorem dX3_moveOn_69 : decode cX3_moveOn 69 = .ok (.iconst 1, 1) := by decide +kernel
theorem dX3_moveOn_70 : decode cX3_moveOn 70 = .ok (.aload_n 0, 1) := by decide +kernel
theorem dX3_moveOn_71 : decode cX3_moveOn 71 = .ok (.getfield 21, 3) := by decide +kernel
theorem dX3_moveOn_74 : decode cX3_moveOn 74 = .ok (.iconst 0, 1) := by decide +kernel
theorem dX3_moveOn_75 : decode cX3_moveOn 75 = .ok (.aload_n 0, 1) := by decide +kernel
theorem dX3_moveOn_76 : decode cX3_moveOn 76 = .ok (.getfield 38, 3) := by decide +kernel
theorem dX3_moveOn_79 : decode cX3_moveOn 79 = .ok (.invokestatic 28, 3) := by decide +kernel
theorem dX3_moveOn_82 : decode cX3_moveOn 82 = .ok (.return_, 1) := by decide +kernel
theorem dX3_leak_0 : decode cX3_leak 0 = .ok (.iconst 0, 1) := by decide +kernel
theorem dX3_leak_1 : decode cX3_leak 1 = .ok (.istore_n 1, 1) := by decide +kernel
theorem dX3_leak_2 : decode cX3_leak 2 = .ok (.iload_n 1, 1) := by decide +kernel
theorem dX3_leak_3 : decode cX3_leak 3 = .ok (.aload_n 0, 1) := by decide +kernel
theorem dX3_leak_4 : decode cX3_leak 4 = .ok (.getfield 24, 3) := by decide +kernel
theorem dX3_leak_7 : decode cX3_leak 7 = .ok (.getfield 83, 3) := by decide +kernel
theorem dX3_leak_10 : decode cX3_leak 10 = .ok (.if_icmp .ge 43, 3) := by decide +kernel
theorem dX3_leak_13 : decode cX3_leak 13 = .ok (.aload_n 0, 1) := by decide +kernel
theorem dX3_leak_14 : decode cX3_leak 14 = .ok (.getfield 9, 3) := by decide +kernel
theorem dX3_leak_17 : decode cX3_leak 17 = .ok (.iload_n 1, 1) := by decide +kernel
theorem dX3_leak_18 : decode cX3_leak 18 = .ok (.iaload, 1) := by decide +kernel
theorem dX3_leak_19 : decode cX3_leak 19 = .ok (.istore_n 2, 1) := by decide +kernel
theorem dX3_leak_20 : decode cX3_leak 20 = .ok (.iload_n 2, 1) := by decide +kernel
theorem dX3_leak_21 : decode cX3_leak 21 = .ok (.sipush 4096, 3) := by decide +kernel
theorem dX3_leak_24 : decode cX3_leak 24 = .ok (.invokestatic 140, 3) := by decide +kernel
theorem dX3_leak_27 : decode cX3_leak 27 = .ok (.ifCond .eq 20, 3) := by decide +kernel
theorem dX3_leak_30 : decode cX3_leak 30 = .ok (.iload_n 2, 1) := by decide +kernel
theorem dX3_leak_31 : decode cX3_leak 31 = .ok (.invokestatic 144, 3) := by decide +kernel
theorem dX3_leak_34 : decode cX3_leak 34 = .ok (.ifCond .le 13, 3) := by decide +kernel
theorem dX3_leak_37 : decode cX3_leak 37 = .ok (.aload_n 0, 1) := by decide +kernel
theorem dX3_leak_38 : decode cX3_leak 38 = .ok (.getfield 9, 3) := by decide +kernel
theorem dX3_leak_41 : decode cX3_leak 41 = .ok (.iload_n 1, 1) := by decide +kernel
theorem dX3_leak_42 : decode cX3_leak 42 = .ok (.iload_n 2, 1) := by decide +kernel
theorem dX3_leak_43 : decode cX3_leak 43 = .ok (.invokestatic 147, 3) := by decide +kernel
theorem dX3_leak_46 : decode cX3_leak 46 = .ok (.iastore, 1) := by decide +kernel
theorem dX3_leak_47 : decode cX3_leak 47 = .ok (.iinc 1 1, 3) := by decide +kernel
theorem dX3_leak_50 : decode cX3_leak 50 = .ok (.goto (-48), 3) := by decide +kernel
theorem dX3_leak_53 : decode cX3_leak 53 = .ok (.return_, 1) := by decide +kernel
theorem dX3_fill_0 : decode cX3_fill 0 = .ok (.aload_n 0, 1) := by decide +kernel
theorem dX3_fill_1 : decode cX3_fill 1 = .ok (.invokevirtual 150, 3) := by decide +kernel
theorem dX3_fill_4 : decode cX3_fill 4 = .ok (.istore_n 1, 1) := by decide +kernel
theorem dX3_fill_5 : decode cX3_fill 5 = .ok (.aload_n 0, 1) := by decide +kernel
theorem dX3_fill_6 : decode cX3_fill 6 = .ok (.getfield 9, 3) := by decide +kernel
theorem dX3_fill_9 : decode cX3_fill 9 = .ok (.iconst 0, 1) := by decide +kernel
theorem dX3_fill_10 : decode cX3_fill 10 = .ok (.iaload, 1) := by decide +kernel
theorem dX3_fill_11 : decode cX3_fill 11 = .ok (.ifCond .eq 14, 3) := by decide +kernel
theorem dX3_fill_14 : decode cX3_fill 14 = .ok (.aload_n 0, 1) := by decide +kernel
theorem dX3_fill_15 : decode cX3_fill 15 = .ok (.getfield 24, 3) := by decide +kernel
theorem dX3_fill_18 : decode cX3_fill 18 = .ok (.iload_n 1, 1) := by decide +kernel
theorem dX3_fill_19 : decode cX3_fill 19 = .ok (.invokevirtual 153, 3) := by decide +kernel
theorem dX3_fill_22 : decode cX3_fill 22 = .ok (.ifCond .ne 4, 3) := by decide +kernel
theorem dX3_fill_25 : decode cX3_fill 25 = .ok (.return_, 1) := by decide +kernel
theorem dX3_fill_26 : decode cX3_fill 26 = .ok (.aload_n 0, 1) := by decide +kernel
theorem dX3_fill_27 : decode cX3_fill 27 = .ok (.iload_n 1, 1) := by decide +kernel
theorem dX3_fill_28 : decode cX3_fill 28 = .ok (.invokevirtual 156, 3) := by decide +kernel
theorem dX3_fill_31 : decode cX3_fill 31 = .ok (.ifCond .eq 7, 3) := by decide +kernel
theorem dX3_fill_34 : decode cX3_fill 34 = .ok (.iconst 0, 1) := by decide +kernel
theorem dX3_fill_35 : decode cX3_fill 35 = .ok (.goto 22, 3) := by decide +kernel
theorem dX3_fill_38 : decode cX3_fill 38 = .ok (.aload_n 0, 1) := by decide +kernel
theorem dX3_fill_39 : decode cX3_fill 39 = .ok (.getfield 18, 3) := by decide +kernel
theorem dX3_fill_42 : decode cX3_fill 42 = .ok (.iload_n 1, 1) := by decide +kernel
theorem dX3_fill_43 : decode cX3_fill 43 = .ok (.iaload, 1) := by decide +kernel
theorem dX3_fill_44 : decode cX3_fill 44 = .ok (.aload_n 0, 1) := by decide +kernel
theorem dX3_fill_45 : decode cX3_fill 45 = .ok (.getfield 24, 3) := by decide +kernel
theorem dX3_fill_48 : decode cX3_fill 48 = .ok (.getfield 159, 3) := by decide +kernel
theorem dX3_fill_51 : decode cX3_fill 51 = .ok (.iload_n 1, 1) := by decide +kernel
theorem dX3_fill_52 : decode cX3_fill 52 = .ok (.iaload, 1) := by decide +kernel
theorem dX3_fill_53 : decode cX3_fill 53 = .ok (.iadd, 1) := by decide +kernel
theorem dX3_fill_54 : decode cX3_fill 54 = .ok (.invokestatic 162, 3) := by decide +kernel
theorem dX3_fill_57 : decode cX3_fill 57 = .ok (.istore_n 2, 1) := by decide +kernel
theorem dX3_fill_58 : decode cX3_fill 58 = .ok (.aload_n 0, 1) := by decide +kernel
theorem dX3_fill_59 : decode cX3_fill 59 = .ok (.getfield 9, 3) := by decide +kernel
theorem dX3_fill_62 : decode cX3_fill 62 = .ok (.iconst 0, 1) := by decide +kernel
theorem dX3_fill_63 : decode cX3_fill 63 = .ok (.aload_n 0, 1) := by decide +kernel
theorem dX3_fill_64 : decode cX3_fill 64 = .ok (.getfield 9, 3) := by decide +kernel
theorem dX3_fill_67 : decode cX3_fill 67 = .ok (.iconst 0, 1) := by decide +kernel
theorem dX3_fill_68 : decode cX3_fill 68 = .ok (.iaload, 1) := by decide +kernel
theorem dX3_fill_69 : decode cX3_fill 69 = .ok (.iload_n 1, 1) := by decide +kernel
theorem dX3_fill_70 : decode cX3_fill 70 = .ok (.iload_n 2, 1) := by decide +kernel
theorem dX3_fill_71 : decode cX3_fill 71 = .ok (.invokestatic 165, 3) := by decide +kernel
theorem dX3_fill_74 : decode cX3_fill 74 = .ok (.iastore, 1) := by decide +kernel
theorem dX3_fill_75 : decode cX3_fill 75 = .ok (.return_, 1) := by decide +kernel
theorem dX3_isOff_0 : decode cX3_isOff 0 = .ok (.aload_n 0, 1) := by decide +kernel
theorem dX3_isOff_1 : decode cX3_isOff 1 = .ok (.getfield 34, 3) := by decide +kernel
theorem dX3_isOff_4 : decode cX3_isOff 4 = .ok (.iload_n 1, 1) := by decide +kernel
theorem dX3_isOff_5 : decode cX3_isOff 5 = .ok (.ishr, 1) := by decide +kernel
theorem dX3_isOff_6 : decode cX3_isOff 6 = .ok (.iconst 1, 1) := by decide +kernel
theorem dX3_isOff_7 : decode cX3_isOff 7 = .ok (.iand, 1) := by decide +kernel
theorem dX3_isOff_8 : decode cX3_isOff 8 = .ok (.ifCond .eq 7, 3) := by decide +kernel
theorem dX3_isOff_11 : decode cX3_isOff 11 = .ok (.iconst 1, 1) := by decide +kernel
theorem dX3_isOff_12 : decode cX3_isOff 12 = .ok (.goto 4, 3) := by decide +kernel
theorem dX3_isOff_15 : decode cX3_isOff 15 = .ok (.iconst 0, 1) := by decide +kernel
theorem dX3_isOff_16 : decode cX3_isOff 16 = .ok (.ireturn, 1) := by decide +kernel
theorem dX3_weigh_0 : decode cX3_weigh 0 = .ok (.aload_n 0, 1) := by decide +kernel
theorem dX3_weigh_1 : decode cX3_weigh 1 = .ok (.getfield 9, 3) := by decide +kernel
theorem dX3_weigh_4 : decode cX3_weigh 4 = .ok (.aload_n 0, 1) := by decide +kernel
theorem dX3_weigh_5 : decode cX3_weigh 5 = .ok (.getfield 24, 3) := by decide +kernel
theorem dX3_weigh_8 : decode cX3_weigh 8 = .ok (.getfield 100, 3) := by decide +kernel
theorem dX3_weigh_11 : decode cX3_weigh 11 = .ok (.iconst 0, 1) := by decide +kernel
theorem dX3_weigh_12 : decode cX3_weigh 12 = .ok (.iaload, 1) := by decide +kernel
theorem dX3_weigh_13 : decode cX3_weigh 13 = .ok (.iaload, 1) := by decide +kernel
theorem dX3_weigh_14 : decode cX3_weigh 14 = .ok (.istore_n 1, 1) := by decide +kernel
theorem dX3_weigh_15 : decode cX3_weigh 15 = .ok (.iload_n 1, 1) := by decide +kernel
theorem dX3_weigh_16 : decode cX3_weigh 16 = .ok (.invokestatic 169, 3) := by decide +kernel
theorem dX3_weigh_19 : decode cX3_weigh 19 = .ok (.istore_n 2, 1) := by decide +kernel
theorem dX3_weigh_20 : decode cX3_weigh 20 = .ok (.aload_n 0, 1) := by decide +kernel
theorem dX3_weigh_21 : decode cX3_weigh 21 = .ok (.getfield 24, 3) := by decide +kernel
theorem dX3_weigh_24 : decode cX3_weigh 24 = .ok (.iload_n 2, 1) := by decide +kernel
theorem dX3_weigh_25 : decode cX3_weigh 25 = .ok (.invokevirtual 153, 3) := by decide +kernel
theorem dX3_weigh_28 : decode cX3_weigh 28 = .ok (.ifCond .eq 43, 3) := by decide +kernel
theorem dX3_weigh_31 : decode cX3_weigh 31 = .ok (.aload_n 0, 1) := by decide +kernel
theorem dX3_weigh_32 : decode cX3_weigh 32 = .ok (.iload_n 2, 1) := by decide +kernel
theorem dX3_weigh_33 : decode cX3_weigh 33 = .ok (.invokevirtual 156, 3) := by decide +kernel
theorem dX3_weigh_36 : decode cX3_weigh 36 = .ok (.ifCond .ne 35, 3) := by decide +kernel
theorem dX3_weigh_39 : decode cX3_weigh 39 = .ok (.aload_n 0, 1) := by decide +kernel
theorem dX3_weigh_40 : decode cX3_weigh 40 = .ok (.getfield 24, 3) := by decide +kernel
theorem dX3_weigh_43 : decode cX3_weigh 43 = .ok (.getfield 172, 3) := by decide +kernel
theorem dX3_weigh_46 : decode cX3_weigh 46 = .ok (.iload_n 1, 1) := by decide +kernel
theorem dX3_weigh_47 : decode cX3_weigh 47 = .ok (.invokestatic 144, 3) := by decide +kernel
theorem dX3_weigh_50 : decode cX3_weigh 50 = .ok (.isub, 1) := by decide +kernel
theorem dX3_weigh_51 : decode cX3_weigh 51 = .ok (.iconst 2, 1) := by decide +kernel
theorem dX3_weigh_52 : decode cX3_weigh 52 = .ok (.idiv, 1) := by decide +kernel
theorem dX3_weigh_53 : decode cX3_weigh 53 = .ok (.istore_n 3, 1) := by decide +kernel
theorem dX3_weigh_54 : decode cX3_weigh 54 = .ok (.aload_n 0, 1) := by decide +kernel
theorem dX3_weigh_55 : decode cX3_weigh 55 = .ok (.getfield 18, 3) := by decide +kernel
theorem dX3_weigh_58 : decode cX3_weigh 58 = .ok (.iload_n 2, 1) := by decide +kernel
theorem dX3_weigh_59 : decode cX3_weigh 59 = .ok (.aload_n 0, 1) := by decide +kernel
theorem dX3_weigh_60 : decode cX3_weigh 60 = .ok (.getfield 18, 3) := by decide +kernel
theorem dX3_weigh_63 : decode cX3_weigh 63 = .ok (.iload_n 2, 1) := by decide +kernel
theorem dX3_weigh_64 : decode cX3_weigh 64 = .ok (.iaload, 1) := by decide +kernel
theorem dX3_weigh_65 : decode cX3_weigh 65 = .ok (.iload_n 3, 1) := by decide +kernel
theorem dX3_weigh_66 : decode cX3_weigh 66 = .ok (.iadd, 1) := by decide +kernel
theorem dX3_weigh_67 : decode cX3_weigh 67 = .ok (.invokestatic 162, 3) := by decide +kernel
theorem dX3_weigh_70 : decode cX3_weigh 70 = .ok (.iastore, 1) := by decide +kernel
theorem dX3_weigh_71 : decode cX3_weigh 71 = .ok (.return_, 1) := by decide +kernel
theorem dX3_equip_0 : decode cX3_equip 0 = .ok (.aload_n 0, 1) := by decide +kernel
theorem dX3_equip_1 : decode cX3_equip 1 = .ok (.getfield 24, 3) := by decide +kernel
theorem dX3_equip_4 : decode cX3_equip 4 = .ok (.getfield 100, 3) := by decide +kernel
theorem dX3_equip_7 : decode cX3_equip 7 = .ok (.iconst 1, 1) := by decide +kernel
theorem dX3_equip_8 : decode cX3_equip 8 = .ok (.iaload, 1) := by decide +kernel
theorem dX3_equip_9 : decode cX3_equip 9 = .ok (.istore_n 1, 1) := by decide +kernel
theorem dX3_equip_10 : decode cX3_equip 10 = .ok (.aload_n 0, 1) := by decide +kernel
theorem dX3_equip_11 : decode cX3_equip 11 = .ok (.getfield 9, 3) := by decide +kernel
theorem dX3_equip_14 : decode cX3_equip 14 = .ok (.iload_n 1, 1) := by decide +kernel
theorem dX3_equip_15 : decode cX3_equip 15 = .ok (.iaload, 1) := by decide +kernel
theorem dX3_equip_16 : decode cX3_equip 16 = .ok (.ifCond .eq 32, 3) := by decide +kernel
theorem dX3_equip_19 : decode cX3_equip 19 = .ok (.aload_n 0, 1) := by decide +kernel
theorem dX3_equip_20 : decode cX3_equip 20 = .ok (.getfield 41, 3) := by decide +kernel
theorem dX3_equip_23 : decode cX3_equip 23 = .ok (.ifCond .le 25, 3) := by decide +kernel
theorem dX3_equip_26 : decode cX3_equip 26 = .ok (.aload_n 0, 1) := by decide +kernel
theorem dX3_equip_27 : decode cX3_equip 27 = .ok (.getfield 9, 3) := by decide +kernel
theorem dX3_equip_30 : decode cX3_equip 30 = .ok (.iload_n 1, 1) := by decide +kernel
theorem dX3_equip_31 : decode cX3_equip 31 = .ok (.dup2, 1) := by decide +kernel
theorem dX3_equip_32 : decode cX3_equip 32 = .ok (.iaload, 1) := by decide +kernel
theorem dX3_equip_33 : decode cX3_equip 33 = .ok (.sipush 1024, 3) := by decide +kernel
theorem dX3_equip_36 : decode cX3_equip 36 = .ok (.ior, 1) := by decide +kernel
theorem dX3_equip_37 : decode cX3_equip 37 = .ok (.iastore, 1) := by decide +kernel
theorem dX3_equip_38 : decode cX3_equip 38 = .ok (.aload_n 0, 1) := by decide +kernel
theorem dX3_equip_39 : decode cX3_equip 39 = .ok (.dup, 1) := by decide +kernel
theorem dX3_equip_40 : decode cX3_equip 40 = .ok (.getfield 41, 3) := by decide +kernel
theorem dX3_equip_43 : decode cX3_equip 43 = .ok (.iconst 1, 1) := by decide +kernel
theorem dX3_equip_44 : decode cX3_equip 44 = .ok (.isub, 1) := by decide +kernel
theorem dX3_equip_45 : decode cX3_equip 45 = .ok (.putfield 41, 3) := by decide +kernel
theorem dX3_equip_48 : decode cX3_equip 48 = .ok (.aload_n 0, 1) := by decide +kernel
theorem dX3_equip_49 : decode cX3_equip 49 = .ok (.getfield 24, 3) := by decide +kernel
theorem dX3_equip_52 : decode cX3_equip 52 = .ok (.getfield 100, 3) := by decide +kernel
theorem dX3_equip_55 : decode cX3_equip 55 = .ok (.iconst 2, 1) := by decide +kernel
theorem dX3_equip_56 : decode cX3_equip 56 = .ok (.iaload, 1) := by decide +kernel
theorem dX3_equip_57 : decode cX3_equip 57 = .ok (.istore_n 2, 1) := by decide +kernel
theorem dX3_equip_58 : decode cX3_equip 58 = .ok (.aload_n 0, 1) := by decide +kernel
theorem dX3_equip_59 : decode cX3_equip 59 = .ok (.getfield 9, 3) := by decide +kernel
theorem dX3_equip_62 : decode cX3_equip 62 = .ok (.iload_n 2, 1) := by decide +kernel
theorem dX3_equip_63 : decode cX3_equip 63 = .ok (.iaload, 1) := by decide +kernel
theorem dX3_equip_64 : decode cX3_equip 64 = .ok (.ifCond .eq 32, 3) := by decide +kernel
theorem dX3_equip_67 : decode cX3_equip 67 = .ok (.aload_n 0, 1) := by decide +kernel
theorem dX3_equip_68 : decode cX3_equip 68 = .ok (.getfield 44, 3) := by decide +kernel
theorem dX3_equip_71 : decode cX3_equip 71 = .ok (.ifCond .le 25, 3) := by decide +kernel
theorem dX3_equip_74 : decode cX3_equip 74 = .ok (.aload_n 0, 1) := by decide +kernel
theorem dX3_equip_75 : decode cX3_equip 75 = .ok (.getfield 9, 3) := by decide +kernel
theorem dX3_equip_78 : decode cX3_equip 78 = .ok (.iload_n 2, 1) := by decide +kernel
theorem dX3_equip_79 : decode cX3_equip 79 = .ok (.dup2, 1) := by decide +kernel
theorem dX3_equip_80 : decode cX3_equip 80 = .ok (.iaload, 1) := by decide +kernel
theorem dX3_equip_81 : decode cX3_equip 81 = .ok (.sipush 2048, 3) := by decide +kernel
theorem dX3_equip_84 : decode cX3_equip 84 = .ok (.ior, 1) := by decide +kernel
theorem dX3_equip_85 : decode cX3_equip 85 = .ok (.iastore, 1) := by decide +kernel
theorem dX3_equip_86 : decode cX3_equip 86 = .ok (.aload_n 0, 1) := by decide +kernel
theorem dX3_equip_87 : decode cX3_equip 87 = .ok (.dup, 1) := by decide +kernel
theorem dX3_equip_88 : decode cX3_equip 88 = .ok (.getfield 44, 3) := by decide +kernel
theorem dX3_equip_91 : decode cX3_equip 91 = .ok (.iconst 1, 1) := by decide +kernel
theorem dX3_equip_92 : decode cX3_equip 92 = .ok (.isub, 1) := by decide +kernel
theorem dX3_equip_93 : decode cX3_equip 93 = .ok (.putfield 44, 3) := by decide +kernel
theorem dX3_equip_96 : decode cX3_equip 96 = .ok (.return_, 1) := by decide +kernel
theorem dX3_check_0 : decode cX3_check 0 = .ok (.aload_n 0, 1) := by decide +kernel
theorem dX3_check_1 : decode cX3_check 1 = .ok (.getfield 24, 3) := by decide +kernel
theorem dX3_check_4 : decode cX3_check 4 = .ok (.getfield 100, 3) := by decide +kernel
theorem dX3_check_7 : decode cX3_check 7 = .ok (.iconst 3, 1) := by decide +kernel
theorem dX3_check_8 : decode cX3_check 8 = .ok (.iaload, 1) := by decide +kernel
theorem dX3_check_9 : decode cX3_check 9 = .ok (.istore_n 1, 1) := by decide +kernel
theorem dX3_check_10 : decode cX3_check 10 = .ok (.aload_n 0, 1) := by decide +kernel
theorem dX3_check_11 : decode cX3_check 11 = .ok (.getfield 9, 3) := by decide +kernel
theorem dX3_check_14 : decode cX3_check 14 = .ok (.iload_n 1, 1) := by decide +kernel
theorem dX3_check_15 : decode cX3_check 15 = .ok (.iaload, 1) := by decide +kernel
theorem dX3_check_16 : decode cX3_check 16 = .ok (.ifCond .ne 4, 3) := by decide +kernel
theorem dX3_check_19 : decode cX3_check 19 = .ok (.return_, 1) := by decide +kernel
theorem dX3_check_20 : decode cX3_check 20 = .ok (.aload_n 0, 1) := by decide +kernel
theorem dX3_check_21 : decode cX3_check 21 = .ok (.getfield 24, 3) := by decide +kernel
theorem dX3_check_24 : decode cX3_check 24 = .ok (.aload_n 0, 1) := by decide +kernel
theorem dX3_check_25 : decode cX3_check 25 = .ok (.getfield 9, 3) := by decide +kernel
theorem dX3_check_28 : decode cX3_check 28 = .ok (.iload_n 1, 1) := by decide +kernel
theorem dX3_check_29 : decode cX3_check 29 = .ok (.iaload, 1) := by decide +kernel
theorem dX3_check_30 : decode cX3_check 30 = .ok (.invokevirtual 129, 3) := by decide +kernel
theorem dX3_check_33 : decode cX3_check 33 = .ok (.ifCond .ne 13, 3) := by decide +kernel
theorem dX3_check_36 : decode cX3_check 36 = .ok (.aload_n 0, 1) := by decide +kernel
theorem dX3_check_37 : decode cX3_check 37 = .ok (.getfield 15, 3) := by decide +kernel
theorem dX3_check_40 : decode cX3_check 40 = .ok (.iload_n 1, 1) := by decide +kernel
theorem dX3_check_41 : decode cX3_check 41 = .ok (.iconst 1, 1) := by decide +kernel
theorem dX3_check_42 : decode cX3_check 42 = .ok (.iastore, 1) := by decide +kernel
theorem dX3_check_43 : decode cX3_check 43 = .ok (.goto 54, 3) := by decide +kernel
theorem dX3_check_46 : decode cX3_check 46 = .ok (.aload_n 0, 1) := by decide +kernel
theorem dX3_check_47 : decode cX3_check 47 = .ok (.getfield 15, 3) := by decide +kernel
theorem dX3_check_50 : decode cX3_check 50 = .ok (.iload_n 1, 1) := by decide +kernel
theorem dX3_check_51 : decode cX3_check 51 = .ok (.iaload, 1) := by decide +kernel
theorem dX3_check_52 : decode cX3_check 52 = .ok (.ifCond .ne 45, 3) := by decide +kernel
theorem dX3_check_55 : decode cX3_check 55 = .ok (.aload_n 0, 1) := by decide +kernel
theorem dX3_check_56 : decode cX3_check 56 = .ok (.dup, 1) := by decide +kernel
theorem dX3_check_57 : decode cX3_check 57 = .ok (.getfield 72, 3) := by decide +kernel
theorem dX3_check_60 : decode cX3_check 60 = .ok (.iconst 1, 1) := by decide +kernel
theorem dX3_check_61 : decode cX3_check 61 = .ok (.iadd, 1) := by decide +kernel
theorem dX3_check_62 : decode cX3_check 62 = .ok (.putfield 72, 3) := by decide +kernel
theorem dX3_check_65 : decode cX3_check 65 = .ok (.aload_n 0, 1) := by decide +kernel
theorem dX3_check_66 : decode cX3_check 66 = .ok (.getfield 24, 3) := by decide +kernel
theorem dX3_check_69 : decode cX3_check 69 = .ok (.getfield 175, 3) := by decide +kernel
theorem dX3_check_72 : decode cX3_check 72 = .ok (.ifCond .eq 25, 3) := by decide +kernel
theorem dX3_check_75 : decode cX3_check 75 = .ok (.aload_n 0, 1) := by decide +kernel
theorem dX3_check_76 : decode cX3_check 76 = .ok (.getfield 72, 3) := by decide +kernel
theorem dX3_check_79 : decode cX3_check 79 = .ok (.aload_n 0, 1) := by decide +kernel
theorem dX3_check_80 : decode cX3_check 80 = .ok (.getfield 24, 3) := by decide +kernel
theorem dX3_check_83 : decode cX3_check 83 = .ok (.getfield 175, 3) := by decide +kernel
theorem dX3_check_86 : decode cX3_check 86 = .ok (.irem, 1) := by decide +kernel
theorem dX3_check_87 : decode cX3_check 87 = .ok (.ifCond .ne 10, 3) := by decide +kernel
theorem dX3_check_90 : decode cX3_check 90 = .ok (.aload_n 0, 1) := by decide +kernel
theorem dX3_check_91 : decode cX3_check 91 = .ok (.getfield 15, 3) := by decide +kernel
theorem dX3_check_94 : decode cX3_check 94 = .ok (.iload_n 1, 1) := by decide +kernel
theorem dX3_check_95 : decode cX3_check 95 = .ok (.iconst 2, 1) := by decide +kernel
theorem dX3_check_96 : decode cX3_check 96 = .ok (.iastore, 1) := by decide +kernel
theorem dX3_check_97 : decode cX3_check 97 = .ok (.return_, 1) := by decide +kernel
theorem dX3_push_0 : decode cX3_push 0 = .ok (.aload_n 0, 1) := by decide +kernel
theorem dX3_push_1 : decode cX3_push 1 = .ok (.getfield 24, 3) := by decide +kernel
theorem dX3_push_4 : decode cX3_push 4 = .ok (.getfield 100, 3) := by decide +kernel
theorem dX3_push_7 : decode cX3_push 7 = .ok (.iconst 4, 1) := by decide +kernel
theorem dX3_push_8 : decode cX3_push 8 = .ok (.iaload, 1) := by decide +kernel
theorem dX3_push_9 : decode cX3_push 9 = .ok (.istore_n 1, 1) := by decide +kernel
theorem dX3_push_10 : decode cX3_push 10 = .ok (.aload_n 0, 1) := by decide +kernel
theorem dX3_push_11 : decode cX3_push 11 = .ok (.getfield 15, 3) := by decide +kernel
theorem dX3_push_14 : decode cX3_push 14 = .ok (.iload_n 1, 1) := by decide +kernel
theorem dX3_push_15 : decode cX3_push 15 = .ok (.iaload, 1) := by decide +kernel
theorem dX3_push_16 : decode cX3_push 16 = .ok (.ifCond .ne 4, 3) := by decide +kernel
theorem dX3_push_19 : decode cX3_push 19 = .ok (.return_, 1) := by decide +kernel
theorem dX3_push_20 : decode cX3_push 20 = .ok (.aload_n 0, 1) := by decide +kernel
theorem dX3_push_21 : decode cX3_push 21 = .ok (.getfield 9, 3) := by decide +kernel
theorem dX3_push_24 : decode cX3_push 24 = .ok (.iload_n 1, 1) := by decide +kernel
theorem dX3_push_25 : decode cX3_push 25 = .ok (.iaload, 1) := by decide +kernel
theorem dX3_push_26 : decode cX3_push 26 = .ok (.ifCond .eq 10, 3) := by decide +kernel
theorem dX3_push_29 : decode cX3_push 29 = .ok (.aload_n 0, 1) := by decide +kernel
theorem dX3_push_30 : decode cX3_push 30 = .ok (.getfield 54, 3) := by decide +kernel
theorem dX3_push_33 : decode cX3_push 33 = .ok (.ifCond .eq 9, 3) := by decide +kernel
theorem dX3_push_36 : decode cX3_push 36 = .ok (.aload_n 0, 1) := by decide +kernel
theorem dX3_push_37 : decode cX3_push 37 = .ok (.iconst 1, 1) := by decide +kernel
theorem dX3_push_38 : decode cX3_push 38 = .ok (.putfield 50, 3) := by decide +kernel
theorem dX3_push_41 : decode cX3_push 41 = .ok (.return_, 1) := by decide +kernel
theorem dX3_push_42 : decode cX3_push 42 = .ok (.aload_n 0, 1) := by decide +kernel
theorem dX3_push_43 : decode cX3_push 43 = .ok (.getfield 15, 3) := by decide +kernel
theorem dX3_push_46 : decode cX3_push 46 = .ok (.iload_n 1, 1) := by decide +kernel
theorem dX3_push_47 : decode cX3_push 47 = .ok (.iaload, 1) := by decide +kernel
theorem dX3_push_48 : decode cX3_push 48 = .ok (.iconst 1, 1) := by decide +kernel
theorem dX3_push_49 : decode cX3_push 49 = .ok (.if_icmp .ne 16, 3) := by decide +kernel
theorem dX3_push_52 : decode cX3_push 52 = .ok (.aload_n 0, 1) := by decide +kernel
theorem dX3_push_53 : decode cX3_push 53 = .ok (.dup, 1) := by decide +kernel
theorem dX3_push_54 : decode cX3_push 54 = .ok (.getfield 63, 3) := by decide +kernel
theorem dX3_push_57 : decode cX3_push 57 = .ok (.iconst 1, 1) := by decide +kernel
theorem dX3_push_58 : decode cX3_push 58 = .ok (.iadd, 1) := by decide +kernel
theorem dX3_push_59 : decode cX3_push 59 = .ok (.putfield 63, 3) := by decide +kernel
theorem dX3_push_62 : decode cX3_push 62 = .ok (.goto 13, 3) := by decide +kernel
theorem dX3_push_65 : decode cX3_push 65 = .ok (.aload_n 0, 1) := by decide +kernel
theorem dX3_push_66 : decode cX3_push 66 = .ok (.dup, 1) := by decide +kernel
theorem dX3_push_67 : decode cX3_push 67 = .ok (.getfield 66, 3) := by decide +kernel
theorem dX3_push_70 : decode cX3_push 70 = .ok (.iconst 1, 1) := by decide +kernel
theorem dX3_push_71 : decode cX3_push 71 = .ok (.iadd, 1) := by decide +kernel
theorem dX3_push_72 : decode cX3_push 72 = .ok (.putfield 66, 3) := by decide +kernel
theorem dX3_push_75 : decode cX3_push 75 = .ok (.aload_n 0, 1) := by decide +kernel
theorem dX3_push_76 : decode cX3_push 76 = .ok (.getfield 9, 3) := by decide +kernel
theorem dX3_push_79 : decode cX3_push 79 = .ok (.iload_n 1, 1) := by decide +kernel
theorem dX3_push_80 : decode cX3_push 80 = .ok (.iconst 0, 1) := by decide +kernel
theorem dX3_push_81 : decode cX3_push 81 = .ok (.iastore, 1) := by decide +kernel
theorem dX3_push_82 : decode cX3_push 82 = .ok (.aload_n 0, 1) := by decide +kernel
theorem dX3_push_83 : decode cX3_push 83 = .ok (.getfield 15, 3) := by decide +kernel
theorem dX3_push_86 : decode cX3_push 86 = .ok (.iload_n 1, 1) := by decide +kernel
theorem dX3_push_87 : decode cX3_push 87 = .ok (.iconst 0, 1) := by decide +kernel
theorem dX3_push_88 : decode cX3_push 88 = .ok (.iastore, 1) := by decide +kernel
theorem dX3_push_89 : decode cX3_push 89 = .ok (.return_, 1) := by decide +kernel
