theorem dX0_init_0 : decode cX0_init 0 = .ok (.aload_n 0, 1) := by decide +kernel
theorem dX0_init_1 : decode cX0_init 1 = .ok (.invokespecial 3, 3) := by decide +kernel
theorem dX0_init_4 : decode cX0_init 4 = .ok (.aload_n 0, 1) := by decide +kernel
theorem dX0_init_5 : decode cX0_init 5 = .ok (.iconst 5, 1) := by decide +kernel
theorem dX0_init_6 : decode cX0_init 6 = .ok (.anewarray 9, 3) := by decide +kernel
theorem dX0_init_9 : decode cX0_init 9 = .ok (.putfield 11, 3) := by decide +kernel
theorem dX0_init_12 : decode cX0_init 12 = .ok (.aload_n 0, 1) := by decide +kernel
theorem dX0_init_13 : decode cX0_init 13 = .ok (.iconst 0, 1) := by decide +kernel
theorem dX0_init_14 : decode cX0_init 14 = .ok (.putfield 17, 3) := by decide +kernel
theorem dX0_init_17 : decode cX0_init 17 = .ok (.iconst 0, 1) := by decide +kernel
theorem dX0_init_18 : decode cX0_init 18 = .ok (.istore_n 1, 1) := by decide +kernel
theorem dX0_init_19 : decode cX0_init 19 = .ok (.iload_n 1, 1) := by decide +kernel
theorem dX0_init_20 : decode cX0_init 20 = .ok (.iconst 5, 1) := by decide +kernel
theorem dX0_init_21 : decode cX0_init 21 = .ok (.if_icmp .ge 22, 3) := by decide +kernel
theorem dX0_init_24 : decode cX0_init 24 = .ok (.aload_n 0, 1) := by decide +kernel
theorem dX0_init_25 : decode cX0_init 25 = .ok (.getfield 11, 3) := by decide +kernel
theorem dX0_init_28 : decode cX0_init 28 = .ok (.iload_n 1, 1) := by decide +kernel
theorem dX0_init_29 : decode cX0_init 29 = .ok (.new 9, 3) := by decide +kernel
theorem dX0_init_32 : decode cX0_init 32 = .ok (.dup, 1) := by decide +kernel
theorem dX0_init_33 : decode cX0_init 33 = .ok (.invokespecial 21, 3) := by decide +kernel
theorem dX0_init_36 : decode cX0_init 36 = .ok (.aastore, 1) := by decide +kernel
theorem dX0_init_37 : decode cX0_init 37 = .ok (.iinc 1 1, 3) := by decide +kernel
theorem dX0_init_40 : decode cX0_init 40 = .ok (.goto (-21), 3) := by decide +kernel
theorem dX0_init_43 : decode cX0_init 43 = .ok (.return_, 1) := by decide +kernel
theorem dX0_record_0 : decode cX0_record 0 = .ok (.aload_n 0, 1) := by decide +kernel
theorem dX0_record_1 : decode cX0_record 1 = .ok (.getfield 17, 3) := by decide +kernel
theorem dX0_record_4 : decode cX0_record 4 = .ok (.iconst 5, 1) := by decide +kernel
theorem dX0_record_5 : decode cX0_record 5 = .ok (.if_icmp .lt 7, 3) := by decide +kernel
theorem dX0_record_8 : decode cX0_record 8 = .ok (.aload_n 0, 1) := by decide +kernel
theorem dX0_record_9 : decode cX0_record 9 = .ok (.invokevirtual 22, 3) := by decide +kernel
theorem dX0_record_12 : decode cX0_record 12 = .ok (.aload_n 0, 1) := by decide +kernel
theorem dX0_record_13 : decode cX0_record 13 = .ok (.getfield 17, 3) := by decide +kernel
theorem dX0_record_16 : decode cX0_record 16 = .ok (.ifCond .lt 46, 3) := by decide +kernel
theorem dX0_record_19 : decode cX0_record 19 = .ok (.aload_n 0, 1) := by decide +kernel
theorem dX0_record_20 : decode cX0_record 20 = .ok (.getfield 17, 3) := by decide +kernel
theorem dX0_record_23 : decode cX0_record 23 = .ok (.iconst 5, 1) := by decide +kernel
theorem dX0_record_24 : decode cX0_record 24 = .ok (.if_icmp .ge 38, 3) := by decide +kernel
theorem dX0_record_27 : decode cX0_record 27 = .ok (.aload_n 0, 1) := by decide +kernel
theorem dX0_record_28 : decode cX0_record 28 = .ok (.getfield 11, 3) := by decide +kernel
theorem dX0_record_31 : decode cX0_record 31 = .ok (.aload_n 0, 1) := by decide +kernel
theorem dX0_record_32 : decode cX0_record 32 = .ok (.getfield 17, 3) := by decide +kernel
theorem dX0_record_35 : decode cX0_record 35 = .ok (.aaload, 1) := by decide +kernel
theorem dX0_record_36 : decode cX0_record 36 = .ok (.ifnull 26, 3) := by decide +kernel
theorem dX0_record_39 : decode cX0_record 39 = .ok (.aload_n 0, 1) := by decide +kernel
theorem dX0_record_40 : decode cX0_record 40 = .ok (.getfield 11, 3) := by decide +kernel
theorem dX0_record_43 : decode cX0_record 43 = .ok (.aload_n 0, 1) := by decide +kernel
theorem dX0_record_44 : decode cX0_record 44 = .ok (.getfield 17, 3) := by decide +kernel
theorem dX0_record_47 : decode cX0_record 47 = .ok (.aaload, 1) := by decide +kernel
theorem dX0_record_48 : decode cX0_record 48 = .ok (.aload_n 1, 1) := by decide +kernel
theorem dX0_record_49 : decode cX0_record 49 = .ok (.invokevirtual 25, 3) := by decide +kernel
theorem dX0_record_52 : decode cX0_record 52 = .ok (.aload_n 0, 1) := by decide +kernel
theorem dX0_record_53 : decode cX0_record 53 = .ok (.dup, 1) := by decide +kernel
theorem dX0_record_54 : decode cX0_record 54 = .ok (.getfield 17, 3) := by decide +kernel
theorem dX0_record_57 : decode cX0_record 57 = .ok (.iconst 1, 1) := by decide +kernel
theorem dX0_record_58 : decode cX0_record 58 = .ok (.iadd, 1) := by decide +kernel
theorem dX0_record_59 : decode cX0_record 59 = .ok (.putfield 17, 3) := by decide +kernel
theorem dX0_record_62 : decode cX0_record 62 = .ok (.return_, 1) := by decide +kernel
theorem dX0_discardOldest_0 : decode cX0_discardOldest 0 = .ok (.aload_n 0, 1) := by decide +kernel
theorem dX0_discardOldest_1 : decode cX0_discardOldest 1 = .ok (.getfield 11, 3) := by decide +kernel
theorem dX0_discardOldest_4 : decode cX0_discardOldest 4 = .ok (.iconst 0, 1) := by decide +kernel
theorem dX0_discardOldest_5 : decode cX0_discardOldest 5 = .ok (.aaload, 1) := by decide +kernel
theorem dX0_discardOldest_6 : decode cX0_discardOldest 6 = .ok (.astore_n 1, 1) := by decide +kernel
theorem dX0_discardOldest_7 : decode cX0_discardOldest 7 = .ok (.iconst 1, 1) := by decide +kernel
theorem dX0_discardOldest_8 : decode cX0_discardOldest 8 = .ok (.istore_n 2, 1) := by decide +kernel
theorem dX0_discardOldest_9 : decode cX0_discardOldest 9 = .ok (.iload_n 2, 1) := by decide +kernel
theorem dX0_discardOldest_10 : decode cX0_discardOldest 10 = .ok (.iconst 5, 1) := by decide +kernel
theorem dX0_discardOldest_11 : decode cX0_discardOldest 11 = .ok (.if_icmp .ge 23, 3) := by decide +kernel
theorem dX0_discardOldest_14 : decode cX0_discardOldest 14 = .ok (.aload_n 0, 1) := by decide +kernel
theorem dX0_discardOldest_15 : decode cX0_discardOldest 15 = .ok (.getfield 11, 3) := by decide +kernel
theorem dX0_discardOldest_18 : decode cX0_discardOldest 18 = .ok (.iload_n 2, 1) := by decide +kernel
theorem dX0_discardOldest_19 : decode cX0_discardOldest 19 = .ok (.iconst 1, 1) := by decide +kernel
theorem dX0_discardOldest_20 : decode cX0_discardOldest 20 = .ok (.isub, 1) := by decide +kernel
theorem dX0_discardOldest_21 : decode cX0_discardOldest 21 = .ok (.aload_n 0, 1) := by decide +kernel
theorem dX0_discardOldest_22 : decode cX0_discardOldest 22 = .ok (.getfield 11, 3) := by decide +kernel
theorem dX0_discardOldest_25 : decode cX0_discardOldest 25 = .ok (.iload_n 2, 1) := by decide +kernel
theorem dX0_discardOldest_26 : decode cX0_discardOldest 26 = .ok (.aaload, 1) := by decide +kernel
theorem dX0_discardOldest_27 : decode cX0_discardOldest 27 = .ok (.aastore, 1) := by decide +kernel
theorem dX0_discardOldest_28 : decode cX0_discardOldest 28 = .ok (.iinc 2 1, 3) := by decide +kernel
theorem dX0_discardOldest_31 : decode cX0_discardOldest 31 = .ok (.goto (-22), 3) := by decide +kernel
theorem dX0_discardOldest_34 : decode cX0_discardOldest 34 = .ok (.aload_n 0, 1) := by decide +kernel
theorem dX0_discardOldest_35 : decode cX0_discardOldest 35 = .ok (.getfield 11, 3) := by decide +kernel
theorem dX0_discardOldest_38 : decode cX0_discardOldest 38 = .ok (.iconst 4, 1) := by decide +kernel
theorem dX0_discardOldest_39 : decode cX0_discardOldest 39 = .ok (.aload_n 1, 1) := by decide +kernel
theorem dX0_discardOldest_40 : decode cX0_discardOldest 40 = .ok (.aastore, 1) := by decide +kernel
theorem dX0_discardOldest_41 : decode cX0_discardOldest 41 = .ok (.aload_n 0, 1) := by decide +kernel
theorem dX0_discardOldest_42 : decode cX0_discardOldest 42 = .ok (.iconst 4, 1) := by decide +kernel
theorem dX0_discardOldest_43 : decode cX0_discardOldest 43 = .ok (.putfield 17, 3) := by decide +kernel
theorem dX0_discardOldest_46 : decode cX0_discardOldest 46 = .ok (.return_, 1) := by decide +kernel
theorem dX1_init_0 : decode cX1_init 0 = .ok (.aload_n 0, 1) := by decide +kernel
theorem dX1_init_1 : decode cX1_init 1 = .ok (.invokespecial 3, 3) := by decide +kernel
theorem dX1_init_4 : decode cX1_init 4 = .ok (.aload_n 0, 1) := by decide +kernel
theorem dX1_init_5 : decode cX1_init 5 = .ok (.bipush 47, 2) := by decide +kernel
theorem dX1_init_7 : decode cX1_init 7 = .ok (.newarray .int, 2) := by decide +kernel
theorem dX1_init_9 : decode cX1_init 9 = .ok (.putfield 9, 3) := by decide +kernel
theorem dX1_init_12 : decode cX1_init 12 = .ok (.aload_n 0, 1) := by decide +kernel
theorem dX1_init_13 : decode cX1_init 13 = .ok (.sipush 256, 3) := by decide +kernel
theorem dX1_init_16 : decode cX1_init 16 = .ok (.newarray .int, 2) := by decide +kernel
theorem dX1_init_18 : decode cX1_init 18 = .ok (.putfield 15, 3) := by decide +kernel
theorem dX1_init_21 : decode cX1_init 21 = .ok (.iconst 0, 1) := by decide +kernel
theorem dX1_init_22 : decode cX1_init 22 = .ok (.istore_n 1, 1) := by decide +kernel
theorem dX1_init_23 : decode cX1_init 23 = .ok (.iconst 0, 1) := by decide +kernel
theorem dX1_init_24 : decode cX1_init 24 = .ok (.istore_n 2, 1) := by decide +kernel
theorem dX1_init_25 : decode cX1_init 25 = .ok (.iload_n 2, 1) := by decide +kernel
theorem dX1_init_26 : decode cX1_init 26 = .ok (.sipush 256, 3) := by decide +kernel
theorem dX1_init_29 : decode cX1_init 29 = .ok (.if_icmp .ge 51, 3) := by decide +kernel
theorem dX1_init_32 : decode cX1_init 32 = .ok (.iload_n 2, 1) := by decide +kernel
theorem dX1_init_33 : decode cX1_init 33 = .ok (.invokestatic 18, 3) := by decide +kernel
theorem dX1_init_36 : decode cX1_init 36 = .ok (.iload_n 2, 1) := by decide +kernel
theorem dX1_init_37 : decode cX1_init 37 = .ok (.if_icmp .ne 29, 3) := by decide +kernel
theorem dX1_init_40 : decode cX1_init 40 = .ok (.iload_n 1, 1) := by decide +kernel
theorem dX1_init_41 : decode cX1_init 41 = .ok (.bipush 47, 2) := by decide +kernel
theorem dX1_init_43 : decode cX1_init 43 = .ok (.if_icmp .ge 23, 3) := by decide +kernel
theorem dX1_init_46 : decode cX1_init 46 = .ok (.aload_n 0, 1) := by decide +kernel
theorem dX1_init_47 : decode cX1_init 47 = .ok (.getfield 9, 3) := by decide +kernel
theorem dX1_init_50 : decode cX1_init 50 = .ok (.iload_n 1, 1) := by decide +kernel
theorem dX1_init_51 : decode cX1_init 51 = .ok (.iload_n 2, 1) := by decide +kernel
theorem dX1_init_52 : decode cX1_init 52 = .ok (.iastore, 1) := by decide +kernel
theorem dX1_init_53 : decode cX1_init 53 = .ok (.aload_n 0, 1) := by decide +kernel
theorem dX1_init_54 : decode cX1_init 54 = .ok (.getfield 15, 3) := by decide +kernel
theorem dX1_init_57 : decode cX1_init 57 = .ok (.iload_n 2, 1) := by decide +kernel
theorem dX1_init_58 : decode cX1_init 58 = .ok (.iload_n 1, 1) := by decide +kernel
theorem dX1_init_59 : decode cX1_init 59 = .ok (.iastore, 1) := by decide +kernel
theorem dX1_init_60 : decode cX1_init 60 = .ok (.iinc 1 1, 3) := by decide +kernel
theorem dX1_init_63 : decode cX1_init 63 = .ok (.goto 11, 3) := by decide +kernel
theorem dX1_init_66 : decode cX1_init 66 = .ok (.aload_n 0, 1) := by decide +kernel
theorem dX1_init_67 : decode cX1_init 67 = .ok (.getfield 15, 3) := by decide +kernel
theorem dX1_init_70 : decode cX1_init 70 = .ok (.iload_n 2, 1) := by decide +kernel
theorem dX1_init_71 : decode cX1_init 71 = .ok (.bipush (-6), 2) := by decide +kernel
theorem dX1_init_73 : decode cX1_init 73 = .ok (.iastore, 1) := by decide +kernel
theorem dX1_init_74 : decode cX1_init 74 = .ok (.iinc 2 1, 3) := by decide +kernel
theorem dX1_init_77 : decode cX1_init 77 = .ok (.goto (-52), 3) := by decide +kernel
theorem dX1_init_80 : decode cX1_init 80 = .ok (.return_, 1) := by decide +kernel
theorem dX1_maskFor_0 : decode cX1_maskFor 0 = .ok (.iload_n 1, 1) := by decide +kernel
theorem dX1_maskFor_1 : decode cX1_maskFor 1 = .ok (.invokestatic 22, 3) := by decide +kernel
theorem dX1_maskFor_4 : decode cX1_maskFor 4 = .ok (.ifCond .eq 12, 3) := by decide +kernel
theorem dX1_maskFor_7 : decode cX1_maskFor 7 = .ok (.aload_n 0, 1) := by decide +kernel
theorem dX1_maskFor_8 : decode cX1_maskFor 8 = .ok (.getfield 9, 3) := by decide +kernel
theorem dX1_maskFor_11 : decode cX1_maskFor 11 = .ok (.iload_n 1, 1) := by decide +kernel
theorem dX1_maskFor_12 : decode cX1_maskFor 12 = .ok (.iaload, 1) := by decide +kernel
theorem dX1_maskFor_13 : decode cX1_maskFor 13 = .ok (.goto 4, 3) := by decide +kernel
theorem dX1_maskFor_16 : decode cX1_maskFor 16 = .ok (.iconst 0, 1) := by decide +kernel
theorem dX1_maskFor_17 : decode cX1_maskFor 17 = .ok (.ireturn, 1) := by decide +kernel
theorem dX1_shapeFor_0 : decode cX1_shapeFor 0 = .ok (.iload_n 1, 1) := by decide +kernel
theorem dX1_shapeFor_1 : decode cX1_shapeFor 1 = .ok (.ifCond .lt 19, 3) := by decide +kernel
theorem dX1_shapeFor_4 : decode cX1_shapeFor 4 = .ok (.iload_n 1, 1) := by decide +kernel
theorem dX1_shapeFor_5 : decode cX1_shapeFor 5 = .ok (.sipush 256, 3) := by decide +kernel
theorem dX1_shapeFor_8 : decode cX1_shapeFor 8 = .ok (.if_icmp .ge 12, 3) := by decide +kernel
theorem dX1_shapeFor_11 : decode cX1_shapeFor 11 = .ok (.aload_n 0, 1) := by decide +kernel
theorem dX1_shapeFor_12 : decode cX1_shapeFor 12 = .ok (.getfield 15, 3) := by decide +kernel
theorem dX1_shapeFor_15 : decode cX1_shapeFor 15 = .ok (.iload_n 1, 1) := by decide +kernel
theorem dX1_shapeFor_16 : decode cX1_shapeFor 16 = .ok (.iaload, 1) := by decide +kernel
theorem dX1_shapeFor_17 : decode cX1_shapeFor 17 = .ok (.goto 5, 3) := by decide +kernel
theorem dX1_shapeFor_20 : decode cX1_shapeFor 20 = .ok (.bipush (-6), 2) := by decide +kernel
theorem dX1_shapeFor_22 : decode cX1_shapeFor 22 = .ok (.ireturn, 1) := by decide +kernel
theorem dX1_turnedShape_0 : decode cX1_turnedShape 0 = .ok (.aload_n 0, 1) := by decide +kernel
theorem dX1_turnedShape_1 : decode cX1_turnedShape 1 = .ok (.aload_n 0, 1) := by decide +kernel
theorem dX1_turnedShape_2 : decode cX1_turnedShape 2 = .ok (.iload_n 1, 1) := by decide +kernel
theorem dX1_turnedShape_3 : decode cX1_turnedShape 3 = .ok (.invokevirtual 26, 3) := by decide +kernel
theorem dX1_turnedShape_6 : decode cX1_turnedShape 6 = .ok (.iconst 2, 1) := by decide +kernel
theorem dX1_turnedShape_7 : decode cX1_turnedShape 7 = .ok (.iload_n 2, 1) := by decide +kernel
theorem dX1_turnedShape_8 : decode cX1_turnedShape 8 = .ok (.imul, 1) := by decide +kernel
theorem dX1_turnedShape_9 : decode cX1_turnedShape 9 = .ok (.invokestatic 29, 3) := by decide +kernel
theorem dX1_turnedShape_12 : decode cX1_turnedShape 12 = .ok (.invokevirtual 33, 3) := by decide +kernel
theorem dX1_turnedShape_15 : decode cX1_turnedShape 15 = .ok (.ireturn, 1) := by decide +kernel
theorem dX2_init_0 : decode cX2_init 0 = .ok (.aload_n 0, 1) := by decide +kernel
theorem dX2_init_1 : decode cX2_init 1 = .ok (.invokespecial 3, 3) := by decide +kernel
theorem dX2_init_4 : decode cX2_init 4 = .ok (.aload_n 0, 1) := by decide +kernel
theorem dX2_init_5 : decode cX2_init 5 = .ok (.sipush 144, 3) := by decide +kernel
theorem dX2_init_8 : decode cX2_init 8 = .ok (.newarray .int, 2) := by decide +kernel
theorem dX2_init_10 : decode cX2_init 10 = .ok (.putfield 9, 3) := by decide +kernel
theorem dX2_init_13 : decode cX2_init 13 = .ok (.aload_n 0, 1) := by decide +kernel
theorem dX2_init_14 : decode cX2_init 14 = .ok (.sipush 144, 3) := by decide +kernel
theorem dX2_init_17 : decode cX2_init 17 = .ok (.newarray .int, 2) := by decide +kernel
theorem dX2_init_19 : decode cX2_init 19 = .ok (.putfield 15, 3) := by decide +kernel
theorem dX2_init_22 : decode cX2_init 22 = .ok (.aload_n 0, 1) := by decide +kernel
theorem dX2_init_23 : decode cX2_init 23 = .ok (.iconst 0, 1) := by decide +kernel
theorem dX2_init_24 : decode cX2_init 24 = .ok (.putfield 18, 3) := by decide +kernel
theorem dX2_init_27 : decode cX2_init 27 = .ok (.aload_n 0, 1) := by decide +kernel
theorem dX2_init_28 : decode cX2_init 28 = .ok (.iconst 0, 1) := by decide +kernel
theorem dX2_init_29 : decode cX2_init 29 = .ok (.putfield 22, 3) := by decide +kernel
theorem dX2_init_32 : decode cX2_init 32 = .ok (.return_, 1) := by decide +kernel
theorem dX2_forget_0 : decode cX2_forget 0 = .ok (.aload_n 0, 1) := by decide +kernel
theorem dX2_forget_1 : decode cX2_forget 1 = .ok (.getfield 15, 3) := by decide +kernel
theorem dX2_forget_4 : decode cX2_forget 4 = .ok (.iconst (-1), 1) := by decide +kernel
theorem dX2_forget_5 : decode cX2_forget 5 = .ok (.invokestatic 26, 3) := by decide +kernel
theorem dX2_forget_8 : decode cX2_forget 8 = .ok (.return_, 1) := by decide +kernel
theorem dX2_hasReached_0 : decode cX2_hasReached 0 = .ok (.aload_n 0, 1) := by decide +kernel
theorem dX2_hasReached_1 : decode cX2_hasReached 1 = .ok (.iload_n 1, 1) := by decide +kernel
theorem dX2_hasReached_2 : decode cX2_hasReached 2 = .ok (.iload_n 2, 1) := by decide +kernel
theorem dX2_hasReached_3 : decode cX2_hasReached 3 = .ok (.invokevirtual 32, 3) := by decide +kernel
theorem dX2_hasReached_6 : decode cX2_hasReached 6 = .ok (.iconst (-1), 1) := by decide +kernel
theorem dX2_hasReached_7 : decode cX2_hasReached 7 = .ok (.if_icmp .eq 7, 3) := by decide +kernel
theorem dX2_hasReached_10 : decode cX2_hasReached 10 = .ok (.iconst 1, 1) := by decide +kernel
theorem dX2_hasReached_11 : decode cX2_hasReached 11 = .ok (.goto 4, 3) := by decide +kernel
theorem dX2_hasReached_14 : decode cX2_hasReached 14 = .ok (.iconst 0, 1) := by decide +kernel
theorem dX2_hasReached_15 : decode cX2_hasReached 15 = .ok (.ireturn, 1) := by decide +kernel
theorem dX2_stepsTo_0 : decode cX2_stepsTo 0 = .ok (.iload_n 1, 1) := by decide +kernel
theorem dX2_stepsTo_1 : decode cX2_stepsTo 1 = .ok (.bipush 12, 2) := by decide +kernel
theorem dX2_stepsTo_3 : decode cX2_stepsTo 3 = .ok (.imul, 1) := by decide +kernel
theorem dX2_stepsTo_4 : decode cX2_stepsTo 4 = .ok (.iload_n 2, 1) := by decide +kernel
theorem dX2_stepsTo_5 : decode cX2_stepsTo 5 = .ok (.iadd, 1) := by decide +kernel
theorem dX2_stepsTo_6 : decode cX2_stepsTo 6 = .ok (.istore_n 3, 1) := by decide +kernel
theorem dX2_stepsTo_7 : decode cX2_stepsTo 7 = .ok (.iload_n 3, 1) := by decide +kernel
theorem dX2_stepsTo_8 : decode cX2_stepsTo 8 = .ok (.ifCond .lt 19, 3) := by decide +kernel
theorem dX2_stepsTo_11 : decode cX2_stepsTo 11 = .ok (.iload_n 3, 1) := by decide +kernel
theorem dX2_stepsTo_12 : decode cX2_stepsTo 12 = .ok (.sipush 144, 3) := by decide +kernel
theorem dX2_stepsTo_15 : decode cX2_stepsTo 15 = .ok (.if_icmp .ge 12, 3) := by decide +kernel
theorem dX2_stepsTo_18 : decode cX2_stepsTo 18 = .ok (.aload_n 0, 1) := by decide +kernel
theorem dX2_stepsTo_19 : decode cX2_stepsTo 19 = .ok (.getfield 15, 3) := by decide +kernel
theorem dX2_stepsTo_22 : decode cX2_stepsTo 22 = .ok (.iload_n 3, 1) := by decide +kernel
theorem dX2_stepsTo_23 : decode cX2_stepsTo 23 = .ok (.iaload, 1) := by decide +kernel
theorem dX2_stepsTo_24 : decode cX2_stepsTo 24 = .ok (.goto 4, 3) := by decide +kernel
theorem dX2_stepsTo_27 : decode cX2_stepsTo 27 = .ok (.iconst (-1), 1) := by decide +kernel
theorem dX2_stepsTo_28 : decode cX2_stepsTo 28 = .ok (.ireturn, 1) := by decide +kernel
theorem dX2_overRegion_0 : decode cX2_overRegion 0 = .ok (.aload_n 0, 1) := by decide +kernel
theorem dX2_overRegion_1 : decode cX2_overRegion 1 = .ok (.iconst 0, 1) := by decide +kernel
theorem dX2_overRegion_2 : decode cX2_overRegion 2 = .ok (.putfield 18, 3) := by decide +kernel
theorem dX2_overRegion_5 : decode cX2_overRegion 5 = .ok (.aload_n 0, 1) := by decide +kernel
theorem dX2_overRegion_6 : decode cX2_overRegion 6 = .ok (.iconst 0, 1) := by decide +kernel
theorem dX2_overRegion_7 : decode cX2_overRegion 7 = .ok (.putfield 22, 3) := by decide +kernel
theorem dX2_overRegion_10 : decode cX2_overRegion 10 = .ok (.aload_n 0, 1) := by decide +kernel
theorem dX2_overRegion_11 : decode cX2_overRegion 11 = .ok (.aload_n 1, 1) := by decide +kernel
theorem dX2_overRegion_12 : decode cX2_overRegion 12 = .ok (.iload_n 2, 1) := by decide +kernel
theorem dX2_overRegion_13 : decode cX2_overRegion 13 = .ok (.iload_n 3, 1) := by decide +kernel
theorem dX2_overRegion_14 : decode cX2_overRegion 14 = .ok (.iconst 0, 1) := by decide +kernel
theorem dX2_overRegion_15 : decode cX2_overRegion 15 = .ok (.invokevirtual 36, 3) := by decide +kernel
theorem dX2_overRegion_18 : decode cX2_overRegion 18 = .ok (.iconst 0, 1) := by decide +kernel
theorem dX2_overRegion_19 : decode cX2_overRegion 19 = .ok (.istore 5, 2) := by decide +kernel
theorem dX2_overRegion_21 : decode cX2_overRegion 21 = .ok (.iload 5, 2) := by decide +kernel
theorem dX2_overRegion_23 : decode cX2_overRegion 23 = .ok (.aload_n 0, 1) := by decide +kernel
theorem dX2_overRegion_24 : decode cX2_overRegion 24 = .ok (.getfield 18, 3) := by decide +kernel
theorem dX2_overRegion_27 : decode cX2_overRegion 27 = .ok (.if_icmp .ge 31, 3) := by decide +kernel
theorem dX2_overRegion_30 : decode cX2_overRegion 30 = .ok (.iload 5, 2) := by decide +kernel
theorem dX2_overRegion_32 : decode cX2_overRegion 32 = .ok (.sipush 144, 3) := by decide +kernel
theorem dX2_overRegion_35 : decode cX2_overRegion 35 = .ok (.if_icmp .ge 23, 3) := by decide +kernel
theorem dX2_overRegion_38 : decode cX2_overRegion 38 = .ok (.aload_n 0, 1) := by decide +kernel
theorem dX2_overRegion_39 : decode cX2_overRegion 39 = .ok (.aload_n 1, 1) := by decide +kernel
theorem dX2_overRegion_40 : decode cX2_overRegion 40 = .ok (.aload_n 0, 1) := by decide +kernel
theorem dX2_overRegion_41 : decode cX2_overRegion 41 = .ok (.getfield 9, 3) := by decide +kernel
theorem dX2_overRegion_44 : decode cX2_overRegion 44 = .ok (.iload 5, 2) := by decide +kernel
theorem dX2_overRegion_46 : decode cX2_overRegion 46 = .ok (.iaload, 1) := by decide +kernel
theorem dX2_overRegion_47 : decode cX2_overRegion 47 = .ok (.iload 4, 2) := by decide +kernel
theorem dX2_overRegion_49 : decode cX2_overRegion 49 = .ok (.invokevirtual 40, 3) := by decide +kernel
theorem dX2_overRegion_52 : decode cX2_overRegion 52 = .ok (.iinc 5 1, 3) := by decide +kernel
theorem dX2_overRegion_55 : decode cX2_overRegion 55 = .ok (.goto (-34), 3) := by decide +kernel
theorem dX2_overRegion_58 : decode cX2_overRegion 58 = .ok (.return_, 1) := by decide +kernel
theorem dX2_reachNeighbours_0 : decode cX2_reachNeighbours 0 = .ok (.iload_n 2, 1) := by decide +kernel
theorem dX2_reachNeighbours_1 : decode cX2_reachNeighbours 1 = .ok (.bipush 12, 2) := by decide +kernel
theorem dX2_reachNeighbours_3 : decode cX2_reachNeighbours 3 = .ok (.idiv, 1) := by decide +kernel
theorem dX2_reachNeighbours_4 : decode cX2_reachNeighbours 4 = .ok (.istore 4, 2) := by decide +kernel
theorem dX2_reachNeighbours_6 : decode cX2_reachNeighbours 6 = .ok (.iload_n 2, 1) := by decide +kernel
theorem dX2_reachNeighbours_7 : decode cX2_reachNeighbours 7 = .ok (.bipush 12, 2) := by decide +kernel
theorem dX2_reachNeighbours_9 : decode cX2_reachNeighbours 9 = .ok (.irem, 1) := by decide +kernel
theorem dX2_reachNeighbours_10 : decode cX2_reachNeighbours 10 = .ok (.istore 5, 2) := by decide +kernel
theorem dX2_reachNeighbours_12 : decode cX2_reachNeighbours 12 = .ok (.aload_n 1, 1) := by decide +kernel
theorem dX2_reachNeighbours_13 : decode cX2_reachNeighbours 13 = .ok (.iload 4, 2) := by decide +kernel
theorem dX2_reachNeighbours_15 : decode cX2_reachNeighbours 15 = .ok (.iload 5, 2) := by decide +kernel
theorem dX2_reachNeighbours_17 : decode cX2_reachNeighbours 17 = .ok (.invokevirtual 44, 3) := by decide +kernel
theorem dX2_reachNeighbours_20 : decode cX2_reachNeighbours 20 = .ok (.istore 6, 2) := by decide +kernel
theorem dX2_reachNeighbours_22 : decode cX2_reachNeighbours 22 = .ok (.aload_n 0, 1) := by decide +kernel
theorem dX2_reachNeighbours_23 : decode cX2_reachNeighbours 23 = .ok (.iload 4, 2) := by decide +kernel
theorem dX2_reachNeighbours_25 : decode cX2_reachNeighbours 25 = .ok (.iload 5, 2) := by decide +kernel
theorem dX2_reachNeighbours_27 : decode cX2_reachNeighbours 27 = .ok (.invokevirtual 32, 3) := by decide +kernel
theorem dX2_reachNeighbours_30 : decode cX2_reachNeighbours 30 = .ok (.iconst 1, 1) := by decide +kernel
theorem dX2_reachNeighbours_31 : decode cX2_reachNeighbours 31 = .ok (.iadd, 1) := by decide +kernel
theorem dX2_reachNeighbours_32 : decode cX2_reachNeighbours 32 = .ok (.istore 7, 2) := by decide +kernel
theorem dX2_reachNeighbours_34 : decode cX2_reachNeighbours 34 = .ok (.iconst 0, 1) := by decide +kernel
theorem dX2_reachNeighbours_35 : decode cX2_reachNeighbours 35 = .ok (.istore 8, 2) := by decide +kernel
theorem dX2_reachNeighbours_37 : decode cX2_reachNeighbours 37 = .ok (.iload 8, 2) := by decide +kernel
theorem dX2_reachNeighbours_39 : decode cX2_reachNeighbours 39 = .ok (.bipush 8, 2) := by decide +kernel
theorem dX2_reachNeighbours_41 : decode cX2_reachNeighbours 41 = .ok (.if_icmp .ge 60, 3) := by decide +kernel
theorem dX2_reachNeighbours_44 : decode cX2_reachNeighbours 44 = .ok (.iload 4, 2) := by decide +kernel
theorem dX2_reachNeighbours_46 : decode cX2_reachNeighbours 46 = .ok (.iload 8, 2) := by decide +kernel
theorem dX2_reachNeighbours_48 : decode cX2_reachNeighbours 48 = .ok (.invokestatic 50, 3) := by decide +kernel
theorem dX2_reachNeighbours_51 : decode cX2_reachNeighbours 51 = .ok (.iadd, 1) := by decide +kernel
theorem dX2_reachNeighbours_52 : decode cX2_reachNeighbours 52 = .ok (.istore 9, 2) := by decide +kernel
theorem dX2_reachNeighbours_54 : decode cX2_reachNeighbours 54 = .ok (.iload 5, 2) := by decide +kernel
theorem dX2_reachNeighbours_56 : decode cX2_reachNeighbours 56 = .ok (.iload 8, 2) := by decide +kernel
theorem dX2_reachNeighbours_58 : decode cX2_reachNeighbours 58 = .ok (.invokestatic 54, 3) := by decide +kernel
theorem dX2_reachNeighbours_61 : decode cX2_reachNeighbours 61 = .ok (.iadd, 1) := by decide +kernel
theorem dX2_reachNeighbours_62 : decode cX2_reachNeighbours 62 = .ok (.istore 10, 2) := by decide +kernel
theorem dX2_reachNeighbours_64 : decode cX2_reachNeighbours 64 = .ok (.aload_n 1, 1) := by decide +kernel
theorem dX2_reachNeighbours_65 : decode cX2_reachNeighbours 65 = .ok (.iload 9, 2) := by decide +kernel
theorem dX2_reachNeighbours_67 : decode cX2_reachNeighbours 67 = .ok (.iload 10, 2) := by decide +kernel
theorem dX2_reachNeighbours_69 : decode cX2_reachNeighbours 69 = .ok (.invokevirtual 44, 3) := by decide +kernel
theorem dX2_reachNeighbours_72 : decode cX2_reachNeighbours 72 = .ok (.iload 6, 2) := by decide +kernel
theorem dX2_reachNeighbours_74 : decode cX2_reachNeighbours 74 = .ok (.if_icmp .ne 14, 3) := by decide +kernel
theorem dX2_reachNeighbours_77 : decode cX2_reachNeighbours 77 = .ok (.aload_n 0, 1) := by decide +kernel
theorem dX2_reachNeighbours_78 : decode cX2_reachNeighbours 78 = .ok (.aload_n 1, 1) := by decide +kernel
theorem dX2_reachNeighbours_79 : decode cX2_reachNeighbours 79 = .ok (.iload 9, 2) := by decide +kernel
theorem dX2_reachNeighbours_81 : decode cX2_reachNeighbours 81 = .ok (.iload 10, 2) := by decide +kernel
theorem dX2_reachNeighbours_83 : decode cX2_reachNeighbours 83 = .ok (.iload 7, 2) := by decide +kernel
theorem dX2_reachNeighbours_85 : decode cX2_reachNeighbours 85 = .ok (.invokevirtual 36, 3) := by decide +kernel
theorem dX2_reachNeighbours_88 : decode cX2_reachNeighbours 88 = .ok (.iload 8, 2) := by decide +kernel
theorem dX2_reachNeighbours_90 : decode cX2_reachNeighbours 90 = .ok (.iload_n 3, 1) := by decide +kernel
theorem dX2_reachNeighbours_91 : decode cX2_reachNeighbours 91 = .ok (.iconst 1, 1) := by decide +kernel
theorem dX2_reachNeighbours_92 : decode cX2_reachNeighbours 92 = .ok (.invokestatic 57, 3) := by decide +kernel
theorem dX2_reachNeighbours_95 : decode cX2_reachNeighbours 95 = .ok (.iadd, 1) := by decide +kernel
theorem dX2_reachNeighbours_96 : decode cX2_reachNeighbours 96 = .ok (.istore 8, 2) := by decide +kernel
theorem dX2_reachNeighbours_98 : decode cX2_reachNeighbours 98 = .ok (.goto (-61), 3) := by decide +kernel
theorem dX2_reachNeighbours_101 : decode cX2_reachNeighbours 101 = .ok (.return_, 1) := by decide +kernel
theorem dX2_reach_0 : decode cX2_reach 0 = .ok (.aload_n 1, 1) := by decide +kernel
theorem dX2_reach_1 : decode cX2_reach 1 = .ok (.iload_n 2, 1) := by decide +kernel
theorem dX2_reach_2 : decode cX2_reach 2 = .ok (.iload_n 3, 1) := by decide +kernel
theorem dX2_reach_3 : decode cX2_reach 3 = .ok (.invokevirtual 62, 3) := by decide +kernel
theorem dX2_reach_6 : decode cX2_reach 6 = .ok (.ifCond .eq 12, 3) := by decide +kernel
theorem dX2_reach_9 : decode cX2_reach 9 = .ok (.aload_n 0, 1) := by decide +kernel
theorem dX2_reach_10 : decode cX2_reach 10 = .ok (.iload_n 2, 1) := by decide +kernel
theorem dX2_reach_11 : decode cX2_reach 11 = .ok (.iload_n 3, 1) := by decide +kernel
theorem dX2_reach_12 : decode cX2_reach 12 = .ok (.invokevirtual 65, 3) := by decide +kernel
theorem dX2_reach_15 : decode cX2_reach 15 = .ok (.ifCond .eq 4, 3) := by decide +kernel
theorem dX2_reach_18 : decode cX2_reach 18 = .ok (.return_, 1) := by decide +kernel
theorem dX2_reach_19 : decode cX2_reach 19 = .ok (.aload_n 0, 1) := by decide +kernel
theorem dX2_reach_20 : decode cX2_reach 20 = .ok (.getfield 18, 3) := by decide +kernel
theorem dX2_reach_23 : decode cX2_reach 23 = .ok (.ifCond .lt 13, 3) := by decide +kernel
theorem dX2_reach_26 : decode cX2_reach 26 = .ok (.aload_n 0, 1) := by decide +kernel
theorem dX2_reach_27 : decode cX2_reach 27 = .ok (.getfield 18, 3) := by decide +kernel
theorem dX2_reach_30 : decode cX2_reach 30 = .ok (.sipush 144, 3) := by decide +kernel
theorem dX2_reach_33 : decode cX2_reach 33 = .ok (.if_icmp .lt 4, 3) := by decide +kernel
theorem dX2_reach_36 : decode cX2_reach 36 = .ok (.return_, 1) := by decide +kernel
theorem dX2_reach_37 : decode cX2_reach 37 = .ok (.iload_n 2, 1) := by decide +kernel
theorem dX2_reach_38 : decode cX2_reach 38 = .ok (.bipush 12, 2) := by decide +kernel
theorem dX2_reach_40 : decode cX2_reach 40 = .ok (.imul, 1) := by decide +kernel
theorem dX2_reach_41 : decode cX2_reach 41 = .ok (.iload_n 3, 1) := by decide +kernel
theorem dX2_reach_42 : decode cX2_reach 42 = .ok (.iadd, 1) := by decide +kernel
theorem dX2_reach_43 : decode cX2_reach 43 = .ok (.istore 5, 2) := by decide +kernel
theorem dX2_reach_45 : decode cX2_reach 45 = .ok (.aload_n 0, 1) := by decide +kernel
theorem dX2_reach_46 : decode cX2_reach 46 = .ok (.getfield 15, 3) := by decide +kernel
theorem dX2_reach_49 : decode cX2_reach 49 = .ok (.iload 5, 2) := by decide +kernel
theorem dX2_reach_51 : decode cX2_reach 51 = .ok (.iload 4, 2) := by decide +kernel
theorem dX2_reach_53 : decode cX2_reach 53 = .ok (.iastore, 1) := by decide +kernel
theorem dX2_reach_54 : decode cX2_reach 54 = .ok (.aload_n 0, 1) := by decide +kernel
theorem dX2_reach_55 : decode cX2_reach 55 = .ok (.getfield 9, 3) := by decide +kernel
theorem dX2_reach_58 : decode cX2_reach 58 = .ok (.aload_n 0, 1) := by decide +kernel
theorem dX2_reach_59 : decode cX2_reach 59 = .ok (.getfield 18, 3) := by decide +kernel
theorem dX2_reach_62 : decode cX2_reach 62 = .ok (.iload 5, 2) := by decide +kernel
theorem dX2_reach_64 : decode cX2_reach 64 = .ok (.iastore, 1) := by decide +kernel
theorem dX2_reach_65 : decode cX2_reach 65 = .ok (.aload_n 0, 1) := by decide +kernel
theorem dX2_reach_66 : decode cX2_reach 66 = .ok (.dup, 1) := by decide +kernel
theorem dX2_reach_67 : decode cX2_reach 67 = .ok (.getfield 18, 3) := by decide +kernel
theorem dX2_reach_70 : decode cX2_reach 70 = .ok (.iconst 1, 1) := by decide +kernel
theorem dX2_reach_71 : decode cX2_reach 71 = .ok (.iadd, 1) := by decide +kernel
theorem dX2_reach_72 : decode cX2_reach 72 = .ok (.putfield 18, 3) := by decide +kernel
theorem dX2_reach_75 : decode cX2_reach 75 = .ok (.iload_n 2, 1) := by decide +kernel
theorem dX2_reach_76 : decode cX2_reach 76 = .ok (.ifCond .eq 27, 3) := by decide +kernel
theorem dX2_reach_79 : decode cX2_reach 79 = .ok (.iload_n 2, 1) := by decide +kernel
theorem dX2_reach_80 : decode cX2_reach 80 = .ok (.aload_n 1, 1) := by decide +kernel
theorem dX2_reach_81 : decode cX2_reach 81 = .ok (.getfield 68, 3) := by decide +kernel
theorem dX2_reach_84 : decode cX2_reach 84 = .ok (.iconst 1, 1) := by decide +kernel
theorem dX2_reach_85 : decode cX2_reach 85 = .ok (.isub, 1) := by decide +kernel
theorem dX2_reach_86 : decode cX2_reach 86 = .ok (.if_icmp .eq 17, 3) := by decide +kernel
theorem dX2_reach_89 : decode cX2_reach 89 = .ok (.iload_n 3, 1) := by decide +kernel
theorem dX2_reach_90 : decode cX2_reach 90 = .ok (.ifCond .eq 13, 3) := by decide +kernel
theorem dX2_reach_93 : decode cX2_reach 93 = .ok (.iload_n 3, 1) := by decide +kernel
theorem dX2_reach_94 : decode cX2_reach 94 = .ok (.aload_n 1, 1) := by decide +kernel
theorem dX2_reach_95 : decode cX2_reach 95 = .ok (.getfield 71, 3) := by decide +kernel
theorem dX2_reach_98 : decode cX2_reach 98 = .ok (.iconst 1, 1) := by decide +kernel
theorem dX2_reach_99 : decode cX2_reach 99 = .ok (.isub, 1) := by decide +kernel
theorem dX2_reach_100 : decode cX2_reach 100 = .ok (.if_icmp .ne 8, 3) := by decide +kernel
theorem dX2_reach_103 : decode cX2_reach 103 = .ok (.aload_n 0, 1) := by decide +kernel
theorem dX2_reach_104 : decode cX2_reach 104 = .ok (.iconst 1, 1) := by decide +kernel
theorem dX2_reach_105 : decode cX2_reach 105 = .ok (.putfield 22, 3) := by decide +kernel
theorem dX2_reach_108 : decode cX2_reach 108 = .ok (.return_, 1) := by decide +kernel
theorem dX3_init_0 : decode cX3_init 0 = .ok (.aload_n 0, 1) := by decide +kernel
theorem dX3_init_1 : decode cX3_init 1 = .ok (.invokespecial 3, 3) := by decide +kernel
theorem dX3_init_4 : decode cX3_init 4 = .ok (.aload_n 0, 1) := by decide +kernel
theorem dX3_init_5 : decode cX3_init 5 = .ok (.bipush 8, 2) := by decide +kernel
theorem dX3_init_7 : decode cX3_init 7 = .ok (.putfield 9, 3) := by decide +kernel
theorem dX3_init_10 : decode cX3_init 10 = .ok (.aload_n 0, 1) := by decide +kernel
theorem dX3_init_11 : decode cX3_init 11 = .ok (.bipush 8, 2) := by decide +kernel
theorem dX3_init_13 : decode cX3_init 13 = .ok (.putfield 15, 3) := by decide +kernel
theorem dX3_init_16 : decode cX3_init 16 = .ok (.aload_n 0, 1) := by decide +kernel
theorem dX3_init_17 : decode cX3_init 17 = .ok (.iconst 0, 1) := by decide +kernel
theorem dX3_init_18 : decode cX3_init 18 = .ok (.putfield 18, 3) := by decide +kernel
theorem dX3_init_21 : decode cX3_init 21 = .ok (.aload_n 0, 1) := by decide +kernel
theorem dX3_init_22 : decode cX3_init 22 = .ok (.sipush 144, 3) := by decide +kernel
theorem dX3_init_25 : decode cX3_init 25 = .ok (.newarray .boolean, 2) := by decide +kernel
theorem dX3_init_27 : decode cX3_init 27 = .ok (.putfield 22, 3) := by decide +kernel
theorem dX3_init_30 : decode cX3_init 30 = .ok (.aload_n 0, 1) := by decide +kernel
theorem dX3_init_31 : decode cX3_init 31 = .ok (.sipush 144, 3) := by decide +kernel
theorem dX3_init_34 : decode cX3_init 34 = .ok (.newarray .int, 2) := by decide +kernel
theorem dX3_init_36 : decode cX3_init 36 = .ok (.putfield 26, 3) := by decide +kernel
theorem dX3_init_39 : decode cX3_init 39 = .ok (.aload_n 0, 1) := by decide +kernel
theorem dX3_init_40 : decode cX3_init 40 = .ok (.getfield 26, 3) := by decide +kernel
theorem dX3_init_43 : decode cX3_init 43 = .ok (.iconst (-1), 1) := by decide +kernel
theorem dX3_init_44 : decode cX3_init 44 = .ok (.invokestatic 30, 3) := by decide +kernel
theorem dX3_init_47 : decode cX3_init 47 = .ok (.return_, 1) := by decide +kernel
theorem dX3_has_0 : decode cX3_has 0 = .ok (.iload_n 1, 1) := by decide +kernel
theorem dX3_has_1 : decode cX3_has 1 = .ok (.aload_n 0, 1) := by decide +kernel
theorem dX3_has_2 : decode cX3_has 2 = .ok (.getfield 9, 3) := by decide +kernel
theorem dX3_has_5 : decode cX3_has 5 = .ok (.invokestatic 36, 3) := by decide +kernel
theorem dX3_has_8 : decode cX3_has 8 = .ok (.ifCond .eq 18, 3) := by decide +kernel
theorem dX3_has_11 : decode cX3_has 11 = .ok (.iload_n 2, 1) := by decide +kernel
theorem dX3_has_12 : decode cX3_has 12 = .ok (.aload_n 0, 1) := by decide +kernel
theorem dX3_has_13 : decode cX3_has 13 = .ok (.getfield 15, 3) := by decide +kernel
theorem dX3_has_16 : decode cX3_has 16 = .ok (.invokestatic 36, 3) := by decide +kernel
theorem dX3_has_19 : decode cX3_has 19 = .ok (.ifCond .eq 7, 3) := by decide +kernel
theorem dX3_has_22 : decode cX3_has 22 = .ok (.iconst 1, 1) := by decide +kernel
theorem dX3_has_23 : decode cX3_has 23 = .ok (.goto 4, 3) := by decide +kernel
theorem dX3_has_26 : decode cX3_has 26 = .ok (.iconst 0, 1) := by decide +kernel
theorem dX3_has_27 : decode cX3_has 27 = .ok (.ireturn, 1) := by decide +kernel
theorem dX3_isLandAt_0 : decode cX3_isLandAt 0 = .ok (.aload_n 0, 1) := by decide +kernel
theorem dX3_isLandAt_1 : decode cX3_isLandAt 1 = .ok (.iload_n 1, 1) := by decide +kernel
theorem dX3_isLandAt_2 : decode cX3_isLandAt 2 = .ok (.iload_n 2, 1) := by decide +kernel
theorem dX3_isLandAt_3 : decode cX3_isLandAt 3 = .ok (.invokevirtual 40, 3) := by decide +kernel
theorem dX3_isLandAt_6 : decode cX3_isLandAt 6 = .ok (.ifCond .eq 17, 3) := by decide +kernel
theorem dX3_isLandAt_9 : decode cX3_isLandAt 9 = .ok (.aload_n 0, 1) := by decide +kernel
theorem dX3_isLandAt_10 : decode cX3_isLandAt 10 = .ok (.getfield 22, 3) := by decide +kernel
theorem dX3_isLandAt_13 : decode cX3_isLandAt 13 = .ok (.iload_n 1, 1) := by decide +kernel
theorem dX3_isLandAt_14 : decode cX3_isLandAt 14 = .ok (.bipush 12, 2) := by decide +kernel
theorem dX3_isLandAt_16 : decode cX3_isLandAt 16 = .ok (.imul, 1) := by decide +kernel
theorem dX3_isLandAt_17 : decode cX3_isLandAt 17 = .ok (.iload_n 2, 1) := by decide +kernel
theorem dX3_isLandAt_18 : decode cX3_isLandAt 18 = .ok (.iadd, 1) := by decide +kernel
theorem dX3_isLandAt_19 : decode cX3_isLandAt 19 = .ok (.baload, 1) := by decide +kernel
theorem dX3_isLandAt_20 : decode cX3_isLandAt 20 = .ok (.goto 7, 3) := by decide +kernel
theorem dX3_isLandAt_23 : decode cX3_isLandAt 23 = .ok (.aload_n 0, 1) := by decide +kernel
theorem dX3_isLandAt_24 : decode cX3_isLandAt 24 = .ok (.getfield 18, 3) := by decide +kernel
theorem dX3_isLandAt_27 : decode cX3_isLandAt 27 = .ok (.ireturn, 1) := by decide +kernel
theorem dX3_pinAt_0 : decode cX3_pinAt 0 = .ok (.aload_n 0, 1) := by decide +kernel
theorem dX3_pinAt_1 : decode cX3_pinAt 1 = .ok (.iload_n 1, 1) := by decide +kernel
theorem dX3_pinAt_2 : decode cX3_pinAt 2 = .ok (.iload_n 2, 1) := by decide +kernel
theorem dX3_pinAt_3 : decode cX3_pinAt 3 = .ok (.invokevirtual 40, 3) := by decide +kernel
theorem dX3_pinAt_6 : decode cX3_pinAt 6 = .ok (.ifCond .eq 17, 3) := by decide +kernel
theorem dX3_pinAt_9 : decode cX3_pinAt 9 = .ok (.aload_n 0, 1) := by decide +kernel
theorem dX3_pinAt_10 : decode cX3_pinAt 10 = .ok (.getfield 26, 3) := by decide +kernel
theorem dX3_pinAt_13 : decode cX3_pinAt 13 = .ok (.iload_n 1, 1) := by decide +kernel
theorem dX3_pinAt_14 : decode cX3_pinAt 14 = .ok (.bipush 12, 2) := by decide +kernel
theorem dX3_pinAt_16 : decode cX3_pinAt 16 = .ok (.imul, 1) := by decide +kernel
theorem dX3_pinAt_17 : decode cX3_pinAt 17 = .ok (.iload_n 2, 1) := by decide +kernel
theorem dX3_pinAt_18 : decode cX3_pinAt 18 = .ok (.iadd, 1) := by decide +kernel
theorem dX3_pinAt_19 : decode cX3_pinAt 19 = .ok (.iaload, 1) := by decide +kernel
theorem dX3_pinAt_20 : decode cX3_pinAt 20 = .ok (.goto 4, 3) := by decide +kernel
theorem dX3_pinAt_23 : decode cX3_pinAt 23 = .ok (.iconst (-1), 1) := by decide +kernel
theorem dX3_pinAt_24 : decode cX3_pinAt 24 = .ok (.ireturn, 1) := by decide +kernel
theorem dX3_isPinnedAt_0 : decode cX3_isPinnedAt 0 = .ok (.aload_n 0, 1) := by decide +kernel
theorem dX3_isPinnedAt_1 : decode cX3_isPinnedAt 1 = .ok (.iload_n 1, 1) := by decide +kernel
theorem dX3_isPinnedAt_2 : decode cX3_isPinnedAt 2 = .ok (.iload_n 2, 1) := by decide +kernel
theorem dX3_isPinnedAt_3 : decode cX3_isPinnedAt 3 = .ok (.invokevirtual 43, 3) := by decide +kernel
theorem dX3_isPinnedAt_6 : decode cX3_isPinnedAt 6 = .ok (.iconst (-1), 1) := by decide +kernel
theorem dX3_isPinnedAt_7 : decode cX3_isPinnedAt 7 = .ok (.if_icmp .eq 7, 3) := by decide +kernel
theorem dX3_isPinnedAt_10 : decode cX3_isPinnedAt 10 = .ok (.iconst 1, 1) := by decide +kernel
theorem dX3_isPinnedAt_11 : decode cX3_isPinnedAt 11 = .ok (.goto 4, 3) := by decide +kernel
theorem dX3_isPinnedAt_14 : decode cX3_isPinnedAt 14 = .ok (.iconst 0, 1) := by decide +kernel
theorem dX3_isPinnedAt_15 : decode cX3_isPinnedAt 15 = .ok (.ireturn, 1) := by decide +kernel
theorem dX3_putKind_0 : decode cX3_putKind 0 = .ok (.aload_n 0, 1) := by decide +kernel
theorem dX3_putKind_1 : decode cX3_putKind 1 = .ok (.iload_n 1, 1) := by decide +kernel
theorem dX3_putKind_2 : decode cX3_putKind 2 = .ok (.iload_n 2, 1) := by decide +kernel
theorem dX3_putKind_3 : decode cX3_putKind 3 = .ok (.invokevirtual 40, 3) := by decide +kernel
theorem dX3_putKind_6 : decode cX3_putKind 6 = .ok (.ifCond .eq 13, 3) := by decide +kernel
theorem dX3_putKind_9 : decode cX3_putKind 9 = .ok (.aload_n 0, 1) := by decide +kernel
theorem dX3_putKind_10 : decode cX3_putKind 10 = .ok (.iload_n 1, 1) := by decide +kernel
theorem dX3_putKind_11 : decode cX3_putKind 11 = .ok (.iload_n 2, 1) := by decide +kernel
theorem dX3_putKind_12 : decode cX3_putKind 12 = .ok (.invokevirtual 47, 3) := by decide +kernel
theorem dX3_putKind_15 : decode cX3_putKind 15 = .ok (.iload_n 3, 1) := by decide +kernel
theorem dX3_putKind_16 : decode cX3_putKind 16 = .ok (.if_icmp .ne 5, 3) := by decide +kernel
theorem dX3_putKind_19 : decode cX3_putKind 19 = .ok (.iconst 0, 1) := by decide +kernel
theorem dX3_putKind_20 : decode cX3_putKind 20 = .ok (.ireturn, 1) := by decide +kernel
theorem dX3_putKind_21 : decode cX3_putKind 21 = .ok (.aload_n 0, 1) := by decide +kernel
theorem dX3_putKind_22 : decode cX3_putKind 22 = .ok (.getfield 22, 3) := by decide +kernel
theorem dX3_putKind_25 : decode cX3_putKind 25 = .ok (.iload_n 1, 1) := by decide +kernel
theorem dX3_putKind_26 : decode cX3_putKind 26 = .ok (.bipush 12, 2) := by decide +kernel
theorem dX3_putKind_28 : decode cX3_putKind 28 = .ok (.imul, 1) := by decide +kernel
theorem dX3_putKind_29 : decode cX3_putKind 29 = .ok (.iload_n 2, 1) := by decide +kernel
theorem dX3_putKind_30 : decode cX3_putKind 30 = .ok (.iadd, 1) := by decide +kernel
theorem dX3_putKind_31 : decode cX3_putKind 31 = .ok (.iload_n 3, 1) := by decide +kernel
theorem dX3_putKind_32 : decode cX3_putKind 32 = .ok (.bastore, 1) := by decide +kernel
theorem dX3_putKind_33 : decode cX3_putKind 33 = .ok (.aload_n 0, 1) := by decide +kernel
theorem dX3_putKind_34 : decode cX3_putKind 34 = .ok (.getfield 26, 3) := by decide +kernel
theorem dX3_putKind_37 : decode cX3_putKind 37 = .ok (.iload_n 1, 1) := by decide +kernel
theorem dX3_putKind_38 : decode cX3_putKind 38 = .ok (.bipush 12, 2) := by decide +kernel
theorem dX3_putKind_40 : decode cX3_putKind 40 = .ok (.imul, 1) := by decide +kernel
theorem dX3_putKind_41 : decode cX3_putKind 41 = .ok (.iload_n 2, 1) := by decide +kernel
theorem dX3_putKind_42 : decode cX3_putKind 42 = .ok (.iadd, 1) := by decide +kernel
theorem dX3_putKind_43 : decode cX3_putKind 43 = .ok (.iconst (-1), 1) := by decide +kernel
theorem dX3_putKind_44 : decode cX3_putKind 44 = .ok (.iastore, 1) := by decide +kernel
theorem dX3_putKind_45 : decode cX3_putKind 45 = .ok (.iconst 1, 1) := by decide +kernel
theorem dX3_putKind_46 : decode cX3_putKind 46 = .ok (.ireturn, 1) := by decide +kernel
theorem dX3_putPin_0 : decode cX3_putPin 0 = .ok (.aload_n 0, 1) := by decide +kernel
theorem dX3_putPin_1 : decode cX3_putPin 1 = .ok (.iload_n 1, 1) := by decide +kernel
theorem dX3_putPin_2 : decode cX3_putPin 2 = .ok (.iload_n 2, 1) := by decide +kernel
theorem dX3_putPin_3 : decode cX3_putPin 3 = .ok (.invokevirtual 40, 3) := by decide +kernel
theorem dX3_putPin_6 : decode cX3_putPin 6 = .ok (.ifCond .eq 15, 3) := by decide +kernel
theorem dX3_putPin_9 : decode cX3_putPin 9 = .ok (.aload_n 0, 1) := by decide +kernel
theorem dX3_putPin_10 : decode cX3_putPin 10 = .ok (.getfield 26, 3) := by decide +kernel
theorem dX3_putPin_13 : decode cX3_putPin 13 = .ok (.iload_n 1, 1) := by decide +kernel
theorem dX3_putPin_14 : decode cX3_putPin 14 = .ok (.bipush 12, 2) := by decide +kernel
theorem dX3_putPin_16 : decode cX3_putPin 16 = .ok (.imul, 1) := by decide +kernel
theorem dX3_putPin_17 : decode cX3_putPin 17 = .ok (.iload_n 2, 1) := by decide +kernel
theorem dX3_putPin_18 : decode cX3_putPin 18 = .ok (.iadd, 1) := by decide +kernel
theorem dX3_putPin_19 : decode cX3_putPin 19 = .ok (.iload_n 3, 1) := by decide +kernel
theorem dX3_putPin_20 : decode cX3_putPin 20 = .ok (.iastore, 1) := by decide +kernel
theorem dX3_putPin_21 : decode cX3_putPin 21 = .ok (.return_, 1) := by decide +kernel
theorem dX3_becomeWater_0 : decode cX3_becomeWater 0 = .ok (.aload_n 0, 1) := by decide +kernel
theorem dX3_becomeWater_1 : decode cX3_becomeWater 1 = .ok (.iload_n 1, 1) := by decide +kernel
theorem dX3_becomeWater_2 : decode cX3_becomeWater 2 = .ok (.bipush 12, 2) := by decide +kernel
theorem dX3_becomeWater_4 : decode cX3_becomeWater 4 = .ok (.invokestatic 50, 3) := by decide +kernel
theorem dX3_becomeWater_7 : decode cX3_becomeWater 7 = .ok (.putfield 9, 3) := by decide +kernel
theorem dX3_becomeWater_10 : decode cX3_becomeWater 10 = .ok (.aload_n 0, 1) := by decide +kernel
theorem dX3_becomeWater_11 : decode cX3_becomeWater 11 = .ok (.iload_n 2, 1) := by decide +kernel
theorem dX3_becomeWater_12 : decode cX3_becomeWater 12 = .ok (.bipush 12, 2) := by decide +kernel
theorem dX3_becomeWater_14 : decode cX3_becomeWater 14 = .ok (.invokestatic 50, 3) := by decide +kernel
theorem dX3_becomeWater_17 : decode cX3_becomeWater 17 = .ok (.putfield 15, 3) := by decide +kernel
theorem dX3_becomeWater_20 : decode cX3_becomeWater 20 = .ok (.iconst 0, 1) := by decide +kernel
theorem dX3_becomeWater_21 : decode cX3_becomeWater 21 = .ok (.istore_n 3, 1) := by decide +kernel
theorem dX3_becomeWater_22 : decode cX3_becomeWater 22 = .ok (.iload_n 3, 1) := by decide +kernel
theorem dX3_becomeWater_23 : decode cX3_becomeWater 23 = .ok (.sipush 144, 3) := by decide +kernel
theorem dX3_becomeWater_26 : decode cX3_becomeWater 26 = .ok (.if_icmp .ge 23, 3) := by decide +kernel
theorem dX3_becomeWater_29 : decode cX3_becomeWater 29 = .ok (.aload_n 0, 1) := by decide +kernel
theorem dX3_becomeWater_30 : decode cX3_becomeWater 30 = .ok (.getfield 22, 3) := by decide +kernel
theorem dX3_becomeWater_33 : decode cX3_becomeWater 33 = .ok (.iload_n 3, 1) := by decide +kernel
theorem dX3_becomeWater_34 : decode cX3_becomeWater 34 = .ok (.iconst 0, 1) := by decide +kernel
theorem dX3_becomeWater_35 : decode cX3_becomeWater 35 = .ok (.bastore, 1) := by decide +kernel
theorem dX3_becomeWater_36 : decode cX3_becomeWater 36 = .ok (.aload_n 0, 1) := by decide +kernel
theorem dX3_becomeWater_37 : decode cX3_becomeWater 37 = .ok (.getfield 26, 3) := by decide +kernel
theorem dX3_becomeWater_40 : decode cX3_becomeWater 40 = .ok (.iload_n 3, 1) := by decide +kernel
theorem dX3_becomeWater_41 : decode cX3_becomeWater 41 = .ok (.iconst (-1), 1) := by decide +kernel
theorem dX3_becomeWater_42 : decode cX3_becomeWater 42 = .ok (.iastore, 1) := by decide +kernel
theorem dX3_becomeWater_43 : decode cX3_becomeWater 43 = .ok (.iinc 3 1, 3) := by decide +kernel
theorem dX3_becomeWater_46 : decode cX3_becomeWater 46 = .ok (.goto (-24), 3) := by decide +kernel
theorem dX3_becomeWater_49 : decode cX3_becomeWater 49 = .ok (.return_, 1) := by decide +kernel
theorem dX3_copyFrom_0 : decode cX3_copyFrom 0 = .ok (.aload_n 0, 1) := by decide +kernel
theorem dX3_copyFrom_1 : decode cX3_copyFrom 1 = .ok (.aload_n 1, 1) := by decide +kernel
theorem dX3_copyFrom_2 : decode cX3_copyFrom 2 = .ok (.getfield 9, 3) := by decide +kernel
theorem dX3_copyFrom_5 : decode cX3_copyFrom 5 = .ok (.putfield 9, 3) := by decide +kernel
theorem dX3_copyFrom_8 : decode cX3_copyFrom 8 = .ok (.aload_n 0, 1) := by decide +kernel
theorem dX3_copyFrom_9 : decode cX3_copyFrom 9 = .ok (.aload_n 1, 1) := by decide +kernel
theorem dX3_copyFrom_10 : decode cX3_copyFrom 10 = .ok (.getfield 15, 3) := by decide +kernel
theorem dX3_copyFrom_13 : decode cX3_copyFrom 13 = .ok (.putfield 15, 3) := by decide +kernel
theorem dX3_copyFrom_16 : decode cX3_copyFrom 16 = .ok (.aload_n 0, 1) := by decide +kernel
theorem dX3_copyFrom_17 : decode cX3_copyFrom 17 = .ok (.aload_n 1, 1) := by decide +kernel
theorem dX3_copyFrom_18 : decode cX3_copyFrom 18 = .ok (.getfield 18, 3) := by decide +kernel
theorem dX3_copyFrom_21 : decode cX3_copyFrom 21 = .ok (.putfield 18, 3) := by decide +kernel
theorem dX3_copyFrom_24 : decode cX3_copyFrom 24 = .ok (.iconst 0, 1) := by decide +kernel
theorem dX3_copyFrom_25 : decode cX3_copyFrom 25 = .ok (.istore_n 2, 1) := by decide +kernel
theorem dX3_copyFrom_26 : decode cX3_copyFrom 26 = .ok (.iload_n 2, 1) := by decide +kernel
theorem dX3_copyFrom_27 : decode cX3_copyFrom 27 = .ok (.sipush 144, 3) := by decide +kernel
theorem dX3_copyFrom_30 : decode cX3_copyFrom 30 = .ok (.if_icmp .ge 33, 3) := by decide +kernel
theorem dX3_copyFrom_33 : decode cX3_copyFrom 33 = .ok (.aload_n 0, 1) := by decide +kernel
theorem dX3_copyFrom_34 : decode cX3_copyFrom 34 = .ok (.getfield 22, 3) := by decide +kernel
theorem dX3_copyFrom_37 : decode cX3_copyFrom 37 = .ok (.iload_n 2, 1) := by decide +kernel
theorem dX3_copyFrom_38 : decode cX3_copyFrom 38 = .ok (.aload_n 1, 1) := by decide +kernel
theorem dX3_copyFrom_39 : decode cX3_copyFrom 39 = .ok (.getfield 22, 3) := by decide +kernel
theorem dX3_copyFrom_42 : decode cX3_copyFrom 42 = .ok (.iload_n 2, 1) := by decide +kernel
theorem dX3_copyFrom_43 : decode cX3_copyFrom 43 = .ok (.baload, 1) := by decide +kernel
theorem dX3_copyFrom_44 : decode cX3_copyFrom 44 = .ok (.bastore, 1) := by decide +kernel
theorem dX3_copyFrom_45 : decode cX3_copyFrom 45 = .ok (.aload_n 0, 1) := by decide +kernel
theorem dX3_copyFrom_46 : decode cX3_copyFrom 46 = .ok (.getfield 26, 3) := by decide +kernel
theorem dX3_copyFrom_49 : decode cX3_copyFrom 49 = .ok (.iload_n 2, 1) := by decide +kernel
theorem dX3_copyFrom_50 : decode cX3_copyFrom 50 = .ok (.aload_n 1, 1) := by decide +kernel
theorem dX3_copyFrom_51 : decode cX3_copyFrom 51 = .ok (.getfield 26, 3) := by decide +kernel
theorem dX3_copyFrom_54 : decode cX3_copyFrom 54 = .ok (.iload_n 2, 1) := by decide +kernel
theorem dX3_copyFrom_55 : decode cX3_copyFrom 55 = .ok (.iaload, 1) := by decide +kernel
theorem dX3_copyFrom_56 : decode cX3_copyFrom 56 = .ok (.iastore, 1) := by decide +kernel
theorem dX3_copyFrom_57 : decode cX3_copyFrom 57 = .ok (.iinc 2 1, 3) := by decide +kernel
theorem dX3_copyFrom_60 : decode cX3_copyFrom 60 = .ok (.goto (-34), 3) := by decide +kernel
theorem dX3_copyFrom_63 : decode cX3_copyFrom 63 = .ok (.return_, 1) := by decide +kernel
theorem dX3_surroundingsOf_0 : decode cX3_surroundingsOf 0 = .ok (.iconst 0, 1) := by decide +kernel
theorem dX3_surroundingsOf_1 : decode cX3_surroundingsOf 1 = .ok (.istore_n 3, 1) := by decide +kernel
theorem dX3_surroundingsOf_2 : decode cX3_surroundingsOf 2 = .ok (.iconst 0, 1) := by decide +kernel
theorem dX3_surroundingsOf_3 : decode cX3_surroundingsOf 3 = .ok (.istore 4, 2) := by decide +kernel
theorem dX3_surroundingsOf_5 : decode cX3_surroundingsOf 5 = .ok (.iload 4, 2) := by decide +kernel
theorem dX3_surroundingsOf_7 : decode cX3_surroundingsOf 7 = .ok (.bipush 8, 2) := by decide +kernel
theorem dX3_surroundingsOf_9 : decode cX3_surroundingsOf 9 = .ok (.if_icmp .ge 37, 3) := by decide +kernel
theorem dX3_surroundingsOf_12 : decode cX3_surroundingsOf 12 = .ok (.aload_n 0, 1) := by decide +kernel
theorem dX3_surroundingsOf_13 : decode cX3_surroundingsOf 13 = .ok (.iload_n 1, 1) := by decide +kernel
theorem dX3_surroundingsOf_14 : decode cX3_surroundingsOf 14 = .ok (.iload 4, 2) := by decide +kernel
theorem dX3_surroundingsOf_16 : decode cX3_surroundingsOf 16 = .ok (.invokestatic 55, 3) := by decide +kernel
theorem dX3_surroundingsOf_19 : decode cX3_surroundingsOf 19 = .ok (.iadd, 1) := by decide +kernel
theorem dX3_surroundingsOf_20 : decode cX3_surroundingsOf 20 = .ok (.iload_n 2, 1) := by decide +kernel
theorem dX3_surroundingsOf_21 : decode cX3_surroundingsOf 21 = .ok (.iload 4, 2) := by decide +kernel
theorem dX3_surroundingsOf_23 : decode cX3_surroundingsOf 23 = .ok (.invokestatic 59, 3) := by decide +kernel
theorem dX3_surroundingsOf_26 : decode cX3_surroundingsOf 26 = .ok (.iadd, 1) := by decide +kernel
theorem dX3_surroundingsOf_27 : decode cX3_surroundingsOf 27 = .ok (.invokevirtual 47, 3) := by decide +kernel
theorem dX3_surroundingsOf_30 : decode cX3_surroundingsOf 30 = .ok (.ifCond .eq 10, 3) := by decide +kernel
theorem dX3_surroundingsOf_33 : decode cX3_surroundingsOf 33 = .ok (.iload_n 3, 1) := by decide +kernel
theorem dX3_surroundingsOf_34 : decode cX3_surroundingsOf 34 = .ok (.iconst 1, 1) := by decide +kernel
theorem dX3_surroundingsOf_35 : decode cX3_surroundingsOf 35 = .ok (.iload 4, 2) := by decide +kernel
theorem dX3_surroundingsOf_37 : decode cX3_surroundingsOf 37 = .ok (.ishl, 1) := by decide +kernel
theorem dX3_surroundingsOf_38 : decode cX3_surroundingsOf 38 = .ok (.ior, 1) := by decide +kernel
theorem dX3_surroundingsOf_39 : decode cX3_surroundingsOf 39 = .ok (.istore_n 3, 1) := by decide +kernel
theorem dX3_surroundingsOf_40 : decode cX3_surroundingsOf 40 = .ok (.iinc 4 1, 3) := by decide +kernel
theorem dX3_surroundingsOf_43 : decode cX3_surroundingsOf 43 = .ok (.goto (-38), 3) := by decide +kernel
theorem dX3_surroundingsOf_46 : decode cX3_surroundingsOf 46 = .ok (.iload_n 3, 1) := by decide +kernel
theorem dX3_surroundingsOf_47 : decode cX3_surroundingsOf 47 = .ok (.ireturn, 1) := by decide +kernel
theorem dX3_outsideBitsOf_0 : decode cX3_outsideBitsOf 0 = .ok (.iconst 0, 1) := by decide +kernel
theorem dX3_outsideBitsOf_1 : decode cX3_outsideBitsOf 1 = .ok (.istore_n 3, 1) := by decide +kernel
theorem dX3_outsideBitsOf_2 : decode cX3_outsideBitsOf 2 = .ok (.iconst 0, 1) := by decide +kernel
theorem dX3_outsideBitsOf_3 : decode cX3_outsideBitsOf 3 = .ok (.istore 4, 2) := by decide +kernel
theorem dX3_outsideBitsOf_5 : decode cX3_outsideBitsOf 5 = .ok (.iload 4, 2) := by decide +kernel
theorem dX3_outsideBitsOf_7 : decode cX3_outsideBitsOf 7 = .ok (.bipush 8, 2) := by decide +kernel
theorem dX3_outsideBitsOf_9 : decode cX3_outsideBitsOf 9 = .ok (.if_icmp .ge 37, 3) := by decide +kernel
theorem dX3_outsideBitsOf_12 : decode cX3_outsideBitsOf 12 = .ok (.aload_n 0, 1) := by decide +kernel
theorem dX3_outsideBitsOf_13 : decode cX3_outsideBitsOf 13 = .ok (.iload_n 1, 1) := by decide +kernel
theorem dX3_outsideBitsOf_14 : decode cX3_outsideBitsOf 14 = .ok (.iload 4, 2) := by decide +kernel
theorem dX3_outsideBitsOf_16 : decode cX3_outsideBitsOf 16 = .ok (.invokestatic 55, 3) := by decide +kernel
theorem dX3_outsideBitsOf_19 : decode cX3_outsideBitsOf 19 = .ok (.iadd, 1) := by decide +kernel
theorem dX3_outsideBitsOf_20 : decode cX3_outsideBitsOf 20 = .ok (.iload_n 2, 1) := by decide +kernel
theorem dX3_outsideBitsOf_21 : decode cX3_outsideBitsOf 21 = .ok (.iload 4, 2) := by decide +kernel
theorem dX3_outsideBitsOf_23 : decode cX3_outsideBitsOf 23 = .ok (.invokestatic 59, 3) := by decide +kernel
theorem dX3_outsideBitsOf_26 : decode cX3_outsideBitsOf 26 = .ok (.iadd, 1) := by decide +kernel
theorem dX3_outsideBitsOf_27 : decode cX3_outsideBitsOf 27 = .ok (.invokevirtual 40, 3) := by decide +kernel
theorem dX3_outsideBitsOf_30 : decode cX3_outsideBitsOf 30 = .ok (.ifCond .ne 10, 3) := by decide +kernel
theorem dX3_outsideBitsOf_33 : decode cX3_outsideBitsOf 33 = .ok (.iload_n 3, 1) := by decide +kernel
theorem dX3_outsideBitsOf_34 : decode cX3_outsideBitsOf 34 = .ok (.iconst 1, 1) := by decide +kernel
theorem dX3_outsideBitsOf_35 : decode cX3_outsideBitsOf 35 = .ok (.iload 4, 2) := by decide +kernel
theorem dX3_outsideBitsOf_37 : decode cX3_outsideBitsOf 37 = .ok (.ishl, 1) := by decide +kernel
theorem dX3_outsideBitsOf_38 : decode cX3_outsideBitsOf 38 = .ok (.ior, 1) := by decide +kernel
theorem dX3_outsideBitsOf_39 : decode cX3_outsideBitsOf 39 = .ok (.istore_n 3, 1) := by decide +kernel
theorem dX3_outsideBitsOf_40 : decode cX3_outsideBitsOf 40 = .ok (.iinc 4 1, 3) := by decide +kernel
theorem dX3_outsideBitsOf_43 : decode cX3_outsideBitsOf 43 = .ok (.goto (-38), 3) := by decide +kernel
theorem dX3_outsideBitsOf_46 : decode cX3_outsideBitsOf 46 = .ok (.iload_n 3, 1) := by decide +kernel
theorem dX3_outsideBitsOf_47 : decode cX3_outsideBitsOf 47 = .ok (.ireturn, 1) := by decide +kernel
theorem dX3_landTiles_0 : decode cX3_landTiles 0 = .ok (.iconst 0, 1) := by decide +kernel
theorem dX3_landTiles_1 : decode cX3_landTiles 1 = .ok (.istore_n 1, 1) := by decide +kernel
theorem dX3_landTiles_2 : decode cX3_landTiles 2 = .ok (.iconst 0, 1) := by decide +kernel
theorem dX3_landTiles_3 : decode cX3_landTiles 3 = .ok (.istore_n 2, 1) := by decide +kernel
theorem dX3_landTiles_4 : decode cX3_landTiles 4 = .ok (.iload_n 2, 1) := by decide +kernel
theorem dX3_landTiles_5 : decode cX3_landTiles 5 = .ok (.aload_n 0, 1) := by decide +kernel
theorem dX3_landTiles_6 : decode cX3_landTiles 6 = .ok (.getfield 9, 3) := by decide +kernel
theorem dX3_landTiles_9 : decode cX3_landTiles 9 = .ok (.if_icmp .ge 37, 3) := by decide +kernel
theorem dX3_landTiles_12 : decode cX3_landTiles 12 = .ok (.iconst 0, 1) := by decide +kernel
theorem dX3_landTiles_13 : decode cX3_landTiles 13 = .ok (.istore_n 3, 1) := by decide +kernel
theorem dX3_landTiles_14 : decode cX3_landTiles 14 = .ok (.iload_n 3, 1) := by decide +kernel
theorem dX3_landTiles_15 : decode cX3_landTiles 15 = .ok (.aload_n 0, 1) := by decide +kernel
theorem dX3_landTiles_16 : decode cX3_landTiles 16 = .ok (.getfield 15, 3) := by decide +kernel
theorem dX3_landTiles_19 : decode cX3_landTiles 19 = .ok (.if_icmp .ge 21, 3) := by decide +kernel
theorem dX3_landTiles_22 : decode cX3_landTiles 22 = .ok (.aload_n 0, 1) := by decide +kernel
theorem dX3_landTiles_23 : decode cX3_landTiles 23 = .ok (.iload_n 2, 1) := by decide +kernel
theorem dX3_landTiles_24 : decode cX3_landTiles 24 = .ok (.iload_n 3, 1) := by decide +kernel
theorem dX3_landTiles_25 : decode cX3_landTiles 25 = .ok (.invokevirtual 47, 3) := by decide +kernel
theorem dX3_landTiles_28 : decode cX3_landTiles 28 = .ok (.ifCond .eq 6, 3) := by decide +kernel
theorem dX3_landTiles_31 : decode cX3_landTiles 31 = .ok (.iinc 1 1, 3) := by decide +kernel
theorem dX3_landTiles_34 : decode cX3_landTiles 34 = .ok (.iinc 3 1, 3) := by decide +kernel
theorem dX3_landTiles_37 : decode cX3_landTiles 37 = .ok (.goto (-23), 3) := by decide +kernel
theorem dX3_landTiles_40 : decode cX3_landTiles 40 = .ok (.iinc 2 1, 3) := by decide +kernel
theorem dX3_landTiles_43 : decode cX3_landTiles 43 = .ok (.goto (-39), 3) := by decide +kernel
theorem dX3_landTiles_46 : decode cX3_landTiles 46 = .ok (.iload_n 1, 1) := by decide +kernel
theorem dX3_landTiles_47 : decode cX3_landTiles 47 = .ok (.ireturn, 1) := by decide +kernel
theorem dX4_init_0 : decode cX4_init 0 = .ok (.aload_n 0, 1) := by decide +kernel
theorem dX4_init_1 : decode cX4_init 1 = .ok (.invokespecial 3, 3) := by decide +kernel
theorem dX4_init_4 : decode cX4_init 4 = .ok (.aload_n 0, 1) := by decide +kernel
theorem dX4_init_5 : decode cX4_init 5 = .ok (.bipush 80, 2) := by decide +kernel
theorem dX4_init_7 : decode cX4_init 7 = .ok (.newarray .int, 2) := by decide +kernel
theorem dX4_init_9 : decode cX4_init 9 = .ok (.putfield 9, 3) := by decide +kernel
theorem dX4_init_12 : decode cX4_init 12 = .ok (.aload_n 0, 1) := by decide +kernel
theorem dX4_init_13 : decode cX4_init 13 = .ok (.iconst 0, 1) := by decide +kernel
theorem dX4_init_14 : decode cX4_init 14 = .ok (.putfield 15, 3) := by decide +kernel
theorem dX4_init_17 : decode cX4_init 17 = .ok (.aload_n 0, 1) := by decide +kernel
theorem dX4_init_18 : decode cX4_init 18 = .ok (.new 19, 3) := by decide +kernel
theorem dX4_init_21 : decode cX4_init 21 = .ok (.dup, 1) := by decide +kernel
theorem dX4_init_22 : decode cX4_init 22 = .ok (.invokespecial 21, 3) := by decide +kernel
theorem dX4_init_25 : decode cX4_init 25 = .ok (.putfield 22, 3) := by decide +kernel
theorem dX4_init_28 : decode cX4_init 28 = .ok (.aload_n 0, 1) := by decide +kernel
theorem dX4_init_29 : decode cX4_init 29 = .ok (.iconst 0, 1) := by decide +kernel
theorem dX4_init_30 : decode cX4_init 30 = .ok (.putfield 26, 3) := by decide +kernel
theorem dX4_init_33 : decode cX4_init 33 = .ok (.aload_n 0, 1) := by decide +kernel
theorem dX4_init_34 : decode cX4_init 34 = .ok (.iconst 0, 1) := by decide +kernel
theorem dX4_init_35 : decode cX4_init 35 = .ok (.putfield 29, 3) := by decide +kernel
theorem dX4_init_38 : decode cX4_init 38 = .ok (.aload_n 0, 1) := by decide +kernel
theorem dX4_init_39 : decode cX4_init 39 = .ok (.iconst 0, 1) := by decide +kernel
theorem dX4_init_40 : decode cX4_init 40 = .ok (.putfield 32, 3) := by decide +kernel
theorem dX4_init_43 : decode cX4_init 43 = .ok (.aload_n 0, 1) := by decide +kernel
theorem dX4_init_44 : decode cX4_init 44 = .ok (.iconst 0, 1) := by decide +kernel
theorem dX4_init_45 : decode cX4_init 45 = .ok (.putfield 35, 3) := by decide +kernel
theorem dX4_init_48 : decode cX4_init 48 = .ok (.return_, 1) := by decide +kernel
theorem dX5_init_0 : decode cX5_init 0 = .ok (.aload_n 0, 1) := by decide +kernel
theorem dX5_init_1 : decode cX5_init 1 = .ok (.invokespecial 3, 3) := by decide +kernel
theorem dX5_init_4 : decode cX5_init 4 = .ok (.aload_n 0, 1) := by decide +kernel
theorem dX5_init_5 : decode cX5_init 5 = .ok (.new 9, 3) := by decide +kernel
theorem dX5_init_8 : decode cX5_init 8 = .ok (.dup, 1) := by decide +kernel
theorem dX5_init_9 : decode cX5_init 9 = .ok (.invokespecial 11, 3) := by decide +kernel
theorem dX5_init_12 : decode cX5_init 12 = .ok (.putfield 12, 3) := by decide +kernel
theorem dX5_init_15 : decode cX5_init 15 = .ok (.aload_n 0, 1) := by decide +kernel
theorem dX5_init_16 : decode cX5_init 16 = .ok (.new 16, 3) := by decide +kernel
theorem dX5_init_19 : decode cX5_init 19 = .ok (.dup, 1) := by decide +kernel
theorem dX5_init_20 : decode cX5_init 20 = .ok (.invokespecial 18, 3) := by decide +kernel
theorem dX5_init_23 : decode cX5_init 23 = .ok (.putfield 19, 3) := by decide +kernel
theorem dX5_init_26 : decode cX5_init 26 = .ok (.aload_n 0, 1) := by decide +kernel
theorem dX5_init_27 : decode cX5_init 27 = .ok (.new 16, 3) := by decide +kernel
theorem dX5_init_30 : decode cX5_init 30 = .ok (.dup, 1) := by decide +kernel
theorem dX5_init_31 : decode cX5_init 31 = .ok (.invokespecial 18, 3) := by decide +kernel
theorem dX5_init_34 : decode cX5_init 34 = .ok (.putfield 23, 3) := by decide +kernel
theorem dX5_init_37 : decode cX5_init 37 = .ok (.aload_n 0, 1) := by decide +kernel
theorem dX5_init_38 : decode cX5_init 38 = .ok (.new 16, 3) := by decide +kernel
theorem dX5_init_41 : decode cX5_init 41 = .ok (.dup, 1) := by decide +kernel
theorem dX5_init_42 : decode cX5_init 42 = .ok (.invokespecial 18, 3) := by decide +kernel
theorem dX5_init_45 : decode cX5_init 45 = .ok (.putfield 26, 3) := by decide +kernel
theorem dX5_init_48 : decode cX5_init 48 = .ok (.aload_n 0, 1) := by decide +kernel
theorem dX5_init_49 : decode cX5_init 49 = .ok (.iconst 0, 1) := by decide +kernel
theorem dX5_init_50 : decode cX5_init 50 = .ok (.putfield 29, 3) := by decide +kernel
theorem dX5_init_53 : decode cX5_init 53 = .ok (.aload_n 0, 1) := by decide +kernel
theorem dX5_init_54 : decode cX5_init 54 = .ok (.new 33, 3) := by decide +kernel
theorem dX5_init_57 : decode cX5_init 57 = .ok (.dup, 1) := by decide +kernel
theorem dX5_init_58 : decode cX5_init 58 = .ok (.invokespecial 35, 3) := by decide +kernel
theorem dX5_init_61 : decode cX5_init 61 = .ok (.putfield 36, 3) := by decide +kernel
theorem dX5_init_64 : decode cX5_init 64 = .ok (.aload_n 0, 1) := by decide +kernel
theorem dX5_init_65 : decode cX5_init 65 = .ok (.new 40, 3) := by decide +kernel
theorem dX5_init_68 : decode cX5_init 68 = .ok (.dup, 1) := by decide +kernel
theorem dX5_init_69 : decode cX5_init 69 = .ok (.invokespecial 42, 3) := by decide +kernel
theorem dX5_init_72 : decode cX5_init 72 = .ok (.putfield 43, 3) := by decide +kernel
theorem dX5_init_75 : decode cX5_init 75 = .ok (.aload_n 0, 1) := by decide +kernel
theorem dX5_init_76 : decode cX5_init 76 = .ok (.new 47, 3) := by decide +kernel
theorem dX5_init_79 : decode cX5_init 79 = .ok (.dup, 1) := by decide +kernel
theorem dX5_init_80 : decode cX5_init 80 = .ok (.invokespecial 49, 3) := by decide +kernel
theorem dX5_init_83 : decode cX5_init 83 = .ok (.putfield 50, 3) := by decide +kernel
theorem dX5_init_86 : decode cX5_init 86 = .ok (.return_, 1) := by decide +kernel
theorem dX5_begin_0 : decode cX5_begin 0 = .ok (.iload_n 1, 1) := by decide +kernel
theorem dX5_begin_1 : decode cX5_begin 1 = .ok (.invokestatic 54, 3) := by decide +kernel
theorem dX5_begin_4 : decode cX5_begin 4 = .ok (.ifCond .eq 10, 3) := by decide +kernel
theorem dX5_begin_7 : decode cX5_begin 7 = .ok (.iload_n 2, 1) := by decide +kernel
theorem dX5_begin_8 : decode cX5_begin 8 = .ok (.invokestatic 54, 3) := by decide +kernel
theorem dX5_begin_11 : decode cX5_begin 11 = .ok (.ifCond .ne 6, 3) := by decide +kernel
theorem dX5_begin_14 : decode cX5_begin 14 = .ok (.bipush (-2), 2) := by decide +kernel
theorem dX5_begin_16 : decode cX5_begin 16 = .ok (.ireturn, 1) := by decide +kernel
theorem dX5_begin_17 : decode cX5_begin 17 = .ok (.aload_n 0, 1) := by decide +kernel
theorem dX5_begin_18 : decode cX5_begin 18 = .ok (.getfield 36, 3) := by decide +kernel
theorem dX5_begin_21 : decode cX5_begin 21 = .ok (.aload_n 0, 1) := by decide +kernel
theorem dX5_begin_22 : decode cX5_begin 22 = .ok (.getfield 19, 3) := by decide +kernel
theorem dX5_begin_25 : decode cX5_begin 25 = .ok (.invokevirtual 58, 3) := by decide +kernel
theorem dX5_begin_28 : decode cX5_begin 28 = .ok (.aload_n 0, 1) := by decide +kernel
theorem dX5_begin_29 : decode cX5_begin 29 = .ok (.getfield 19, 3) := by decide +kernel
theorem dX5_begin_32 : decode cX5_begin 32 = .ok (.iload_n 1, 1) := by decide +kernel
theorem dX5_begin_33 : decode cX5_begin 33 = .ok (.iload_n 2, 1) := by decide +kernel
theorem dX5_begin_34 : decode cX5_begin 34 = .ok (.invokevirtual 62, 3) := by decide +kernel
theorem dX5_begin_37 : decode cX5_begin 37 = .ok (.iload_n 1, 1) := by decide +kernel
theorem dX5_begin_38 : decode cX5_begin 38 = .ok (.iload_n 2, 1) := by decide +kernel
theorem dX5_begin_39 : decode cX5_begin 39 = .ok (.imul, 1) := by decide +kernel
theorem dX5_begin_40 : decode cX5_begin 40 = .ok (.ireturn, 1) := by decide +kernel
theorem dX5_setOutside_0 : decode cX5_setOutside 0 = .ok (.aload_n 0, 1) := by decide +kernel
theorem dX5_setOutside_1 : decode cX5_setOutside 1 = .ok (.getfield 36, 3) := by decide +kernel
theorem dX5_setOutside_4 : decode cX5_setOutside 4 = .ok (.aload_n 0, 1) := by decide +kernel
theorem dX5_setOutside_5 : decode cX5_setOutside 5 = .ok (.getfield 19, 3) := by decide +kernel
theorem dX5_setOutside_8 : decode cX5_setOutside 8 = .ok (.invokevirtual 58, 3) := by decide +kernel
theorem dX5_setOutside_11 : decode cX5_setOutside 11 = .ok (.iload_n 1, 1) := by decide +kernel
theorem dX5_setOutside_12 : decode cX5_setOutside 12 = .ok (.aload_n 0, 1) := by decide +kernel
theorem dX5_setOutside_13 : decode cX5_setOutside 13 = .ok (.getfield 19, 3) := by decide +kernel
theorem dX5_setOutside_16 : decode cX5_setOutside 16 = .ok (.getfield 66, 3) := by decide +kernel
theorem dX5_setOutside_19 : decode cX5_setOutside 19 = .ok (.if_icmp .ne 7, 3) := by decide +kernel
theorem dX5_setOutside_22 : decode cX5_setOutside 22 = .ok (.iconst 0, 1) := by decide +kernel
theorem dX5_setOutside_23 : decode cX5_setOutside 23 = .ok (.goto 7, 3) := by decide +kernel
theorem dX5_setOutside_26 : decode cX5_setOutside 26 = .ok (.aload_n 0, 1) := by decide +kernel
theorem dX5_setOutside_27 : decode cX5_setOutside 27 = .ok (.invokevirtual 69, 3) := by decide +kernel
theorem dX5_setOutside_30 : decode cX5_setOutside 30 = .ok (.istore_n 2, 1) := by decide +kernel
theorem dX5_setOutside_31 : decode cX5_setOutside 31 = .ok (.aload_n 0, 1) := by decide +kernel
theorem dX5_setOutside_32 : decode cX5_setOutside 32 = .ok (.getfield 19, 3) := by decide +kernel
theorem dX5_setOutside_35 : decode cX5_setOutside 35 = .ok (.iload_n 1, 1) := by decide +kernel
theorem dX5_setOutside_36 : decode cX5_setOutside 36 = .ok (.putfield 66, 3) := by decide +kernel
theorem dX5_setOutside_39 : decode cX5_setOutside 39 = .ok (.iload_n 2, 1) := by decide +kernel
theorem dX5_setOutside_40 : decode cX5_setOutside 40 = .ok (.ireturn, 1) := by decide +kernel
theorem dX5_set_0 : decode cX5_set 0 = .ok (.aload_n 0, 1) := by decide +kernel
theorem dX5_set_1 : decode cX5_set 1 = .ok (.getfield 19, 3) := by decide +kernel
theorem dX5_set_4 : decode cX5_set 4 = .ok (.iload_n 1, 1) := by decide +kernel
theorem dX5_set_5 : decode cX5_set 5 = .ok (.iload_n 2, 1) := by decide +kernel
theorem dX5_set_6 : decode cX5_set 6 = .ok (.invokevirtual 73, 3) := by decide +kernel
theorem dX5_set_9 : decode cX5_set 9 = .ok (.ifCond .ne 5, 3) := by decide +kernel
theorem dX5_set_12 : decode cX5_set 12 = .ok (.iconst (-1), 1) := by decide +kernel
theorem dX5_set_13 : decode cX5_set 13 = .ok (.ireturn, 1) := by decide +kernel
theorem dX5_set_14 : decode cX5_set 14 = .ok (.aload_n 0, 1) := by decide +kernel
theorem dX5_set_15 : decode cX5_set 15 = .ok (.getfield 36, 3) := by decide +kernel
theorem dX5_set_18 : decode cX5_set 18 = .ok (.aload_n 0, 1) := by decide +kernel
theorem dX5_set_19 : decode cX5_set 19 = .ok (.getfield 19, 3) := by decide +kernel
theorem dX5_set_22 : decode cX5_set 22 = .ok (.invokevirtual 58, 3) := by decide +kernel
theorem dX5_set_25 : decode cX5_set 25 = .ok (.iload_n 3, 1) := by decide +kernel
theorem dX5_set_26 : decode cX5_set 26 = .ok (.aload_n 0, 1) := by decide +kernel
theorem dX5_set_27 : decode cX5_set 27 = .ok (.getfield 19, 3) := by decide +kernel
theorem dX5_set_30 : decode cX5_set 30 = .ok (.iload_n 1, 1) := by decide +kernel
theorem dX5_set_31 : decode cX5_set 31 = .ok (.iload_n 2, 1) := by decide +kernel
theorem dX5_set_32 : decode cX5_set 32 = .ok (.invokevirtual 77, 3) := by decide +kernel
theorem dX5_set_35 : decode cX5_set 35 = .ok (.if_icmp .ne 7, 3) := by decide +kernel
theorem dX5_set_38 : decode cX5_set 38 = .ok (.iconst 0, 1) := by decide +kernel
theorem dX5_set_39 : decode cX5_set 39 = .ok (.goto 9, 3) := by decide +kernel
theorem dX5_set_42 : decode cX5_set 42 = .ok (.aload_n 0, 1) := by decide +kernel
theorem dX5_set_43 : decode cX5_set 43 = .ok (.iload_n 1, 1) := by decide +kernel
theorem dX5_set_44 : decode cX5_set 44 = .ok (.iload_n 2, 1) := by decide +kernel
theorem dX5_set_45 : decode cX5_set 45 = .ok (.invokevirtual 80, 3) := by decide +kernel
theorem dX5_set_48 : decode cX5_set 48 = .ok (.istore 4, 2) := by decide +kernel
theorem dX5_set_50 : decode cX5_set 50 = .ok (.aload_n 0, 1) := by decide +kernel
theorem dX5_set_51 : decode cX5_set 51 = .ok (.getfield 19, 3) := by decide +kernel
theorem dX5_set_54 : decode cX5_set 54 = .ok (.iload_n 1, 1) := by decide +kernel
theorem dX5_set_55 : decode cX5_set 55 = .ok (.iload_n 2, 1) := by decide +kernel
theorem dX5_set_56 : decode cX5_set 56 = .ok (.iload_n 3, 1) := by decide +kernel
theorem dX5_set_57 : decode cX5_set 57 = .ok (.invokevirtual 84, 3) := by decide +kernel
theorem dX5_set_60 : decode cX5_set 60 = .ok (.pop, 1) := by decide +kernel
theorem dX5_set_61 : decode cX5_set 61 = .ok (.iload 4, 2) := by decide +kernel
theorem dX5_set_63 : decode cX5_set 63 = .ok (.ireturn, 1) := by decide +kernel
theorem dX5_fill_0 : decode cX5_fill 0 = .ok (.aload_n 0, 1) := by decide +kernel
theorem dX5_fill_1 : decode cX5_fill 1 = .ok (.getfield 19, 3) := by decide +kernel
theorem dX5_fill_4 : decode cX5_fill 4 = .ok (.iload_n 1, 1) := by decide +kernel
theorem dX5_fill_5 : decode cX5_fill 5 = .ok (.iload_n 2, 1) := by decide +kernel
theorem dX5_fill_6 : decode cX5_fill 6 = .ok (.invokevirtual 73, 3) := by decide +kernel
theorem dX5_fill_9 : decode cX5_fill 9 = .ok (.ifCond .ne 5, 3) := by decide +kernel
theorem dX5_fill_12 : decode cX5_fill 12 = .ok (.iconst (-1), 1) := by decide +kernel
theorem dX5_fill_13 : decode cX5_fill 13 = .ok (.ireturn, 1) := by decide +kernel
theorem dX5_fill_14 : decode cX5_fill 14 = .ok (.aload_n 0, 1) := by decide +kernel
theorem dX5_fill_15 : decode cX5_fill 15 = .ok (.getfield 36, 3) := by decide +kernel
theorem dX5_fill_18 : decode cX5_fill 18 = .ok (.aload_n 0, 1) := by decide +kernel
theorem dX5_fill_19 : decode cX5_fill 19 = .ok (.getfield 19, 3) := by decide +kernel
theorem dX5_fill_22 : decode cX5_fill 22 = .ok (.invokevirtual 58, 3) := by decide +kernel
theorem dX5_fill_25 : decode cX5_fill 25 = .ok (.aload_n 0, 1) := by decide +kernel
theorem dX5_fill_26 : decode cX5_fill 26 = .ok (.getfield 19, 3) := by decide +kernel
theorem dX5_fill_29 : decode cX5_fill 29 = .ok (.iload_n 1, 1) := by decide +kernel
theorem dX5_fill_30 : decode cX5_fill 30 = .ok (.iload_n 2, 1) := by decide +kernel
theorem dX5_fill_31 : decode cX5_fill 31 = .ok (.invokevirtual 77, 3) := by decide +kernel
theorem dX5_fill_34 : decode cX5_fill 34 = .ok (.iload_n 3, 1) := by decide +kernel
theorem dX5_fill_35 : decode cX5_fill 35 = .ok (.if_icmp .ne 5, 3) := by decide +kernel
theorem dX5_fill_38 : decode cX5_fill 38 = .ok (.iconst 0, 1) := by decide +kernel
theorem dX5_fill_39 : decode cX5_fill 39 = .ok (.ireturn, 1) := by decide +kernel
theorem dX5_fill_40 : decode cX5_fill 40 = .ok (.aload_n 0, 1) := by decide +kernel
theorem dX5_fill_41 : decode cX5_fill 41 = .ok (.getfield 43, 3) := by decide +kernel
theorem dX5_fill_44 : decode cX5_fill 44 = .ok (.invokevirtual 88, 3) := by decide +kernel
theorem dX5_fill_47 : decode cX5_fill 47 = .ok (.aload_n 0, 1) := by decide +kernel
theorem dX5_fill_48 : decode cX5_fill 48 = .ok (.getfield 43, 3) := by decide +kernel
theorem dX5_fill_51 : decode cX5_fill 51 = .ok (.aload_n 0, 1) := by decide +kernel
theorem dX5_fill_52 : decode cX5_fill 52 = .ok (.getfield 19, 3) := by decide +kernel
theorem dX5_fill_55 : decode cX5_fill 55 = .ok (.iload_n 1, 1) := by decide +kernel
theorem dX5_fill_56 : decode cX5_fill 56 = .ok (.iload_n 2, 1) := by decide +kernel
theorem dX5_fill_57 : decode cX5_fill 57 = .ok (.iconst 2, 1) := by decide +kernel
theorem dX5_fill_58 : decode cX5_fill 58 = .ok (.invokevirtual 91, 3) := by decide +kernel
theorem dX5_fill_61 : decode cX5_fill 61 = .ok (.iconst 0, 1) := by decide +kernel
theorem dX5_fill_62 : decode cX5_fill 62 = .ok (.istore 4, 2) := by decide +kernel
theorem dX5_fill_64 : decode cX5_fill 64 = .ok (.iload 4, 2) := by decide +kernel
theorem dX5_fill_66 : decode cX5_fill 66 = .ok (.aload_n 0, 1) := by decide +kernel
theorem dX5_fill_67 : decode cX5_fill 67 = .ok (.getfield 19, 3) := by decide +kernel
theorem dX5_fill_70 : decode cX5_fill 70 = .ok (.getfield 95, 3) := by decide +kernel
theorem dX5_fill_73 : decode cX5_fill 73 = .ok (.if_icmp .ge 57, 3) := by decide +kernel
theorem dX5_fill_76 : decode cX5_fill 76 = .ok (.iconst 0, 1) := by decide +kernel
theorem dX5_fill_77 : decode cX5_fill 77 = .ok (.istore 5, 2) := by decide +kernel
theorem dX5_fill_79 : decode cX5_fill 79 = .ok (.iload 5, 2) := by decide +kernel
theorem dX5_fill_81 : decode cX5_fill 81 = .ok (.aload_n 0, 1) := by decide +kernel
theorem dX5_fill_82 : decode cX5_fill 82 = .ok (.getfield 19, 3) := by decide +kernel
theorem dX5_fill_85 : decode cX5_fill 85 = .ok (.getfield 99, 3) := by decide +kernel
theorem dX5_fill_88 : decode cX5_fill 88 = .ok (.if_icmp .ge 36, 3) := by decide +kernel
theorem dX5_fill_91 : decode cX5_fill 91 = .ok (.aload_n 0, 1) := by decide +kernel
theorem dX5_fill_92 : decode cX5_fill 92 = .ok (.getfield 43, 3) := by decide +kernel
theorem dX5_fill_95 : decode cX5_fill 95 = .ok (.iload 4, 2) := by decide +kernel
theorem dX5_fill_97 : decode cX5_fill 97 = .ok (.iload 5, 2) := by decide +kernel
theorem dX5_fill_99 : decode cX5_fill 99 = .ok (.invokevirtual 102, 3) := by decide +kernel
theorem dX5_fill_102 : decode cX5_fill 102 = .ok (.ifCond .eq 16, 3) := by decide +kernel
theorem dX5_fill_105 : decode cX5_fill 105 = .ok (.aload_n 0, 1) := by decide +kernel
theorem dX5_fill_106 : decode cX5_fill 106 = .ok (.getfield 19, 3) := by decide +kernel
theorem dX5_fill_109 : decode cX5_fill 109 = .ok (.iload 4, 2) := by decide +kernel
theorem dX5_fill_111 : decode cX5_fill 111 = .ok (.iload 5, 2) := by decide +kernel
theorem dX5_fill_113 : decode cX5_fill 113 = .ok (.iload_n 3, 1) := by decide +kernel
theorem dX5_fill_114 : decode cX5_fill 114 = .ok (.invokevirtual 84, 3) := by decide +kernel
theorem dX5_fill_117 : decode cX5_fill 117 = .ok (.pop, 1) := by decide +kernel
theorem dX5_fill_118 : decode cX5_fill 118 = .ok (.iinc 5 1, 3) := by decide +kernel
theorem dX5_fill_121 : decode cX5_fill 121 = .ok (.goto (-42), 3) := by decide +kernel
theorem dX5_fill_124 : decode cX5_fill 124 = .ok (.iinc 4 1, 3) := by decide +kernel
theorem dX5_fill_127 : decode cX5_fill 127 = .ok (.goto (-63), 3) := by decide +kernel
theorem dX5_fill_130 : decode cX5_fill 130 = .ok (.aload_n 0, 1) := by decide +kernel
theorem dX5_fill_131 : decode cX5_fill 131 = .ok (.getfield 43, 3) := by decide +kernel
theorem dX5_fill_134 : decode cX5_fill 134 = .ok (.getfield 105, 3) := by decide +kernel
theorem dX5_fill_137 : decode cX5_fill 137 = .ok (.ireturn, 1) := by decide +kernel
theorem dX5_brush_0 : decode cX5_brush 0 = .ok (.aload_n 0, 1) := by decide +kernel
theorem dX5_brush_1 : decode cX5_brush 1 = .ok (.getfield 19, 3) := by decide +kernel
theorem dX5_brush_4 : decode cX5_brush 4 = .ok (.iload_n 1, 1) := by decide +kernel
theorem dX5_brush_5 : decode cX5_brush 5 = .ok (.iload_n 2, 1) := by decide +kernel
theorem dX5_brush_6 : decode cX5_brush 6 = .ok (.invokevirtual 73, 3) := by decide +kernel
theorem dX5_brush_9 : decode cX5_brush 9 = .ok (.ifCond .ne 5, 3) := by decide +kernel
theorem dX5_brush_12 : decode cX5_brush 12 = .ok (.iconst (-1), 1) := by decide +kernel
theorem dX5_brush_13 : decode cX5_brush 13 = .ok (.ireturn, 1) := by decide +kernel
theorem dX5_brush_14 : decode cX5_brush 14 = .ok (.iload_n 3, 1) := by decide +kernel
theorem dX5_brush_15 : decode cX5_brush 15 = .ok (.ifCond .lt 8, 3) := by decide +kernel
theorem dX5_brush_18 : decode cX5_brush 18 = .ok (.iload_n 3, 1) := by decide +kernel
theorem dX5_brush_19 : decode cX5_brush 19 = .ok (.iconst 5, 1) := by decide +kernel
theorem dX5_brush_20 : decode cX5_brush 20 = .ok (.if_icmp .le 6, 3) := by decide +kernel
theorem dX5_brush_23 : decode cX5_brush 23 = .ok (.bipush (-2), 2) := by decide +kernel
theorem dX5_brush_25 : decode cX5_brush 25 = .ok (.ireturn, 1) := by decide +kernel
theorem dX5_brush_26 : decode cX5_brush 26 = .ok (.aload_n 0, 1) := by decide +kernel
theorem dX5_brush_27 : decode cX5_brush 27 = .ok (.getfield 36, 3) := by decide +kernel
theorem dX5_brush_30 : decode cX5_brush 30 = .ok (.aload_n 0, 1) := by decide +kernel
theorem dX5_brush_31 : decode cX5_brush 31 = .ok (.getfield 19, 3) := by decide +kernel
theorem dX5_brush_34 : decode cX5_brush 34 = .ok (.invokevirtual 58, 3) := by decide +kernel
theorem dX5_brush_37 : decode cX5_brush 37 = .ok (.iconst 0, 1) := by decide +kernel
theorem dX5_brush_38 : decode cX5_brush 38 = .ok (.istore 5, 2) := by decide +kernel
theorem dX5_brush_40 : decode cX5_brush 40 = .ok (.iload_n 3, 1) := by decide +kernel
theorem dX5_brush_41 : decode cX5_brush 41 = .ok (.ineg, 1) := by decide +kernel
theorem dX5_brush_42 : decode cX5_brush 42 = .ok (.istore 6, 2) := by decide +kernel
theorem dX5_brush_44 : decode cX5_brush 44 = .ok (.iload 6, 2) := by decide +kernel
theorem dX5_brush_46 : decode cX5_brush 46 = .ok (.iload_n 3, 1) := by decide +kernel
theorem dX5_brush_47 : decode cX5_brush 47 = .ok (.if_icmp .gt 65, 3) := by decide +kernel
theorem dX5_brush_50 : decode cX5_brush 50 = .ok (.iload_n 3, 1) := by decide +kernel
theorem dX5_brush_51 : decode cX5_brush 51 = .ok (.ineg, 1) := by decide +kernel
theorem dX5_brush_52 : decode cX5_brush 52 = .ok (.istore 7, 2) := by decide +kernel
theorem dX5_brush_54 : decode cX5_brush 54 = .ok (.iload 7, 2) := by decide +kernel
theorem dX5_brush_56 : decode cX5_brush 56 = .ok (.iload_n 3, 1) := by decide +kernel
theorem dX5_brush_57 : decode cX5_brush 57 = .ok (.if_icmp .gt 49, 3) := by decide +kernel
theorem dX5_brush_60 : decode cX5_brush 60 = .ok (.iload 6, 2) := by decide +kernel
theorem dX5_brush_62 : decode cX5_brush 62 = .ok (.iload 6, 2) := by decide +kernel
theorem dX5_brush_64 : decode cX5_brush 64 = .ok (.imul, 1) := by decide +kernel
theorem dX5_brush_65 : decode cX5_brush 65 = .ok (.iload 7, 2) := by decide +kernel
theorem dX5_brush_67 : decode cX5_brush 67 = .ok (.iload 7, 2) := by decide +kernel
theorem dX5_brush_69 : decode cX5_brush 69 = .ok (.imul, 1) := by decide +kernel
theorem dX5_brush_70 : decode cX5_brush 70 = .ok (.iadd, 1) := by decide +kernel
theorem dX5_brush_71 : decode cX5_brush 71 = .ok (.iload_n 3, 1) := by decide +kernel
theorem dX5_brush_72 : decode cX5_brush 72 = .ok (.iload_n 3, 1) := by decide +kernel
theorem dX5_brush_73 : decode cX5_brush 73 = .ok (.imul, 1) := by decide +kernel
theorem dX5_brush_74 : decode cX5_brush 74 = .ok (.if_icmp .gt 26, 3) := by decide +kernel
theorem dX5_brush_77 : decode cX5_brush 77 = .ok (.aload_n 0, 1) := by decide +kernel
theorem dX5_brush_78 : decode cX5_brush 78 = .ok (.getfield 19, 3) := by decide +kernel
theorem dX5_brush_81 : decode cX5_brush 81 = .ok (.iload_n 1, 1) := by decide +kernel
theorem dX5_brush_82 : decode cX5_brush 82 = .ok (.iload 6, 2) := by decide +kernel
theorem dX5_brush_84 : decode cX5_brush 84 = .ok (.iadd, 1) := by decide +kernel
theorem dX5_brush_85 : decode cX5_brush 85 = .ok (.iload_n 2, 1) := by decide +kernel
theorem dX5_brush_86 : decode cX5_brush 86 = .ok (.iload 7, 2) := by decide +kernel
theorem dX5_brush_88 : decode cX5_brush 88 = .ok (.iadd, 1) := by decide +kernel
theorem dX5_brush_89 : decode cX5_brush 89 = .ok (.iload 4, 2) := by decide +kernel
theorem dX5_brush_91 : decode cX5_brush 91 = .ok (.invokevirtual 84, 3) := by decide +kernel
theorem dX5_brush_94 : decode cX5_brush 94 = .ok (.ifCond .eq 6, 3) := by decide +kernel
theorem dX5_brush_97 : decode cX5_brush 97 = .ok (.iinc 5 1, 3) := by decide +kernel
theorem dX5_brush_100 : decode cX5_brush 100 = .ok (.iinc 7 1, 3) := by decide +kernel
theorem dX5_brush_103 : decode cX5_brush 103 = .ok (.goto (-49), 3) := by decide +kernel
theorem dX5_brush_106 : decode cX5_brush 106 = .ok (.iinc 6 1, 3) := by decide +kernel
theorem dX5_brush_109 : decode cX5_brush 109 = .ok (.goto (-65), 3) := by decide +kernel
theorem dX5_brush_112 : decode cX5_brush 112 = .ok (.iload 5, 2) := by decide +kernel
theorem dX5_brush_114 : decode cX5_brush 114 = .ok (.ireturn, 1) := by decide +kernel
theorem dX5_smooth_0 : decode cX5_smooth 0 = .ok (.iload_n 1, 1) := by decide +kernel
theorem dX5_smooth_1 : decode cX5_smooth 1 = .ok (.iconst 1, 1) := by decide +kernel
theorem dX5_smooth_2 : decode cX5_smooth 2 = .ok (.if_icmp .lt 9, 3) := by decide +kernel
theorem dX5_smooth_5 : decode cX5_smooth 5 = .ok (.iload_n 1, 1) := by decide +kernel
theorem dX5_smooth_6 : decode cX5_smooth 6 = .ok (.bipush 9, 2) := by decide +kernel
theorem dX5_smooth_8 : decode cX5_smooth 8 = .ok (.if_icmp .le 6, 3) := by decide +kernel
theorem dX5_smooth_11 : decode cX5_smooth 11 = .ok (.bipush (-2), 2) := by decide +kernel
theorem dX5_smooth_13 : decode cX5_smooth 13 = .ok (.ireturn, 1) := by decide +kernel
theorem dX5_smooth_14 : decode cX5_smooth 14 = .ok (.aload_n 0, 1) := by decide +kernel
theorem dX5_smooth_15 : decode cX5_smooth 15 = .ok (.getfield 36, 3) := by decide +kernel
theorem dX5_smooth_18 : decode cX5_smooth 18 = .ok (.aload_n 0, 1) := by decide +kernel
theorem dX5_smooth_19 : decode cX5_smooth 19 = .ok (.getfield 19, 3) := by decide +kernel
theorem dX5_smooth_22 : decode cX5_smooth 22 = .ok (.invokevirtual 58, 3) := by decide +kernel
theorem dX5_smooth_25 : decode cX5_smooth 25 = .ok (.aload_n 0, 1) := by decide +kernel
theorem dX5_smooth_26 : decode cX5_smooth 26 = .ok (.getfield 23, 3) := by decide +kernel
theorem dX5_smooth_29 : decode cX5_smooth 29 = .ok (.aload_n 0, 1) := by decide +kernel
theorem dX5_smooth_30 : decode cX5_smooth 30 = .ok (.getfield 19, 3) := by decide +kernel
theorem dX5_smooth_33 : decode cX5_smooth 33 = .ok (.invokevirtual 108, 3) := by decide +kernel
theorem dX5_smooth_36 : decode cX5_smooth 36 = .ok (.iconst 0, 1) := by decide +kernel
theorem dX5_smooth_37 : decode cX5_smooth 37 = .ok (.istore_n 2, 1) := by decide +kernel
theorem dX5_smooth_38 : decode cX5_smooth 38 = .ok (.iconst 0, 1) := by decide +kernel
theorem dX5_smooth_39 : decode cX5_smooth 39 = .ok (.istore_n 3, 1) := by decide +kernel
theorem dX5_smooth_40 : decode cX5_smooth 40 = .ok (.iload_n 3, 1) := by decide +kernel
theorem dX5_smooth_41 : decode cX5_smooth 41 = .ok (.aload_n 0, 1) := by decide +kernel
theorem dX5_smooth_42 : decode cX5_smooth 42 = .ok (.getfield 19, 3) := by decide +kernel
theorem dX5_smooth_45 : decode cX5_smooth 45 = .ok (.getfield 95, 3) := by decide +kernel
theorem dX5_smooth_48 : decode cX5_smooth 48 = .ok (.if_icmp .ge 91, 3) := by decide +kernel
theorem dX5_smooth_51 : decode cX5_smooth 51 = .ok (.iconst 0, 1) := by decide +kernel
theorem dX5_smooth_52 : decode cX5_smooth 52 = .ok (.istore 4, 2) := by decide +kernel
theorem dX5_smooth_54 : decode cX5_smooth 54 = .ok (.iload 4, 2) := by decide +kernel
theorem dX5_smooth_56 : decode cX5_smooth 56 = .ok (.aload_n 0, 1) := by decide +kernel
theorem dX5_smooth_57 : decode cX5_smooth 57 = .ok (.getfield 19, 3) := by decide +kernel
theorem dX5_smooth_60 : decode cX5_smooth 60 = .ok (.getfield 99, 3) := by decide +kernel
theorem dX5_smooth_63 : decode cX5_smooth 63 = .ok (.if_icmp .ge 70, 3) := by decide +kernel
theorem dX5_smooth_66 : decode cX5_smooth 66 = .ok (.aload_n 0, 1) := by decide +kernel
theorem dX5_smooth_67 : decode cX5_smooth 67 = .ok (.getfield 23, 3) := by decide +kernel
theorem dX5_smooth_70 : decode cX5_smooth 70 = .ok (.iload_n 3, 1) := by decide +kernel
theorem dX5_smooth_71 : decode cX5_smooth 71 = .ok (.iload 4, 2) := by decide +kernel
theorem dX5_smooth_73 : decode cX5_smooth 73 = .ok (.invokevirtual 111, 3) := by decide +kernel
theorem dX5_smooth_76 : decode cX5_smooth 76 = .ok (.invokestatic 114, 3) := by decide +kernel
theorem dX5_smooth_79 : decode cX5_smooth 79 = .ok (.aload_n 0, 1) := by decide +kernel
theorem dX5_smooth_80 : decode cX5_smooth 80 = .ok (.getfield 23, 3) := by decide +kernel
theorem dX5_smooth_83 : decode cX5_smooth 83 = .ok (.iload_n 3, 1) := by decide +kernel
theorem dX5_smooth_84 : decode cX5_smooth 84 = .ok (.iload 4, 2) := by decide +kernel
theorem dX5_smooth_86 : decode cX5_smooth 86 = .ok (.invokevirtual 77, 3) := by decide +kernel
theorem dX5_smooth_89 : decode cX5_smooth 89 = .ok (.ifCond .eq 7, 3) := by decide +kernel
theorem dX5_smooth_92 : decode cX5_smooth 92 = .ok (.iconst 1, 1) := by decide +kernel
theorem dX5_smooth_93 : decode cX5_smooth 93 = .ok (.goto 4, 3) := by decide +kernel
theorem dX5_smooth_96 : decode cX5_smooth 96 = .ok (.iconst 0, 1) := by decide +kernel
theorem dX5_smooth_97 : decode cX5_smooth 97 = .ok (.iadd, 1) := by decide +kernel
theorem dX5_smooth_98 : decode cX5_smooth 98 = .ok (.istore 5, 2) := by decide +kernel
theorem dX5_smooth_100 : decode cX5_smooth 100 = .ok (.aload_n 0, 1) := by decide +kernel
theorem dX5_smooth_101 : decode cX5_smooth 101 = .ok (.getfield 19, 3) := by decide +kernel
theorem dX5_smooth_104 : decode cX5_smooth 104 = .ok (.iload_n 3, 1) := by decide +kernel
theorem dX5_smooth_105 : decode cX5_smooth 105 = .ok (.iload 4, 2) := by decide +kernel
theorem dX5_smooth_107 : decode cX5_smooth 107 = .ok (.iload 5, 2) := by decide +kernel
theorem dX5_smooth_109 : decode cX5_smooth 109 = .ok (.iload_n 1, 1) := by decide +kernel
theorem dX5_smooth_110 : decode cX5_smooth 110 = .ok (.if_icmp .lt 7, 3) := by decide +kernel
theorem dX5_smooth_113 : decode cX5_smooth 113 = .ok (.iconst 1, 1) := by decide +kernel
theorem dX5_smooth_114 : decode cX5_smooth 114 = .ok (.goto 4, 3) := by decide +kernel
theorem dX5_smooth_117 : decode cX5_smooth 117 = .ok (.iconst 0, 1) := by decide +kernel
theorem dX5_smooth_118 : decode cX5_smooth 118 = .ok (.invokevirtual 84, 3) := by decide +kernel
theorem dX5_smooth_121 : decode cX5_smooth 121 = .ok (.ifCond .eq 6, 3) := by decide +kernel
theorem dX5_smooth_124 : decode cX5_smooth 124 = .ok (.iinc 2 1, 3) := by decide +kernel
theorem dX5_smooth_127 : decode cX5_smooth 127 = .ok (.iinc 4 1, 3) := by decide +kernel
theorem dX5_smooth_130 : decode cX5_smooth 130 = .ok (.goto (-76), 3) := by decide +kernel
theorem dX5_smooth_133 : decode cX5_smooth 133 = .ok (.iinc 3 1, 3) := by decide +kernel
theorem dX5_smooth_136 : decode cX5_smooth 136 = .ok (.goto (-96), 3) := by decide +kernel
theorem dX5_smooth_139 : decode cX5_smooth 139 = .ok (.iload_n 2, 1) := by decide +kernel
theorem dX5_smooth_140 : decode cX5_smooth 140 = .ok (.ireturn, 1) := by decide +kernel
theorem dX5_turn_0 : decode cX5_turn 0 = .ok (.iload_n 1, 1) := by decide +kernel
theorem dX5_turn_1 : decode cX5_turn 1 = .ok (.iconst 1, 1) := by decide +kernel
theorem dX5_turn_2 : decode cX5_turn 2 = .ok (.if_icmp .lt 8, 3) := by decide +kernel
theorem dX5_turn_5 : decode cX5_turn 5 = .ok (.iload_n 1, 1) := by decide +kernel
theorem dX5_turn_6 : decode cX5_turn 6 = .ok (.iconst 3, 1) := by decide +kernel
theorem dX5_turn_7 : decode cX5_turn 7 = .ok (.if_icmp .le 6, 3) := by decide +kernel
theorem dX5_turn_10 : decode cX5_turn 10 = .ok (.bipush (-2), 2) := by decide +kernel
theorem dX5_turn_12 : decode cX5_turn 12 = .ok (.ireturn, 1) := by decide +kernel
theorem dX5_turn_13 : decode cX5_turn 13 = .ok (.aload_n 0, 1) := by decide +kernel
theorem dX5_turn_14 : decode cX5_turn 14 = .ok (.getfield 36, 3) := by decide +kernel
theorem dX5_turn_17 : decode cX5_turn 17 = .ok (.aload_n 0, 1) := by decide +kernel
theorem dX5_turn_18 : decode cX5_turn 18 = .ok (.getfield 19, 3) := by decide +kernel
theorem dX5_turn_21 : decode cX5_turn 21 = .ok (.invokevirtual 58, 3) := by decide +kernel
theorem dX5_turn_24 : decode cX5_turn 24 = .ok (.iconst 0, 1) := by decide +kernel
theorem dX5_turn_25 : decode cX5_turn 25 = .ok (.istore_n 2, 1) := by decide +kernel
theorem dX5_turn_26 : decode cX5_turn 26 = .ok (.iload_n 2, 1) := by decide +kernel
theorem dX5_turn_27 : decode cX5_turn 27 = .ok (.iload_n 1, 1) := by decide +kernel
theorem dX5_turn_28 : decode cX5_turn 28 = .ok (.if_icmp .ge 24, 3) := by decide +kernel
theorem dX5_turn_31 : decode cX5_turn 31 = .ok (.aload_n 0, 1) := by decide +kernel
theorem dX5_turn_32 : decode cX5_turn 32 = .ok (.getfield 23, 3) := by decide +kernel
theorem dX5_turn_35 : decode cX5_turn 35 = .ok (.aload_n 0, 1) := by decide +kernel
theorem dX5_turn_36 : decode cX5_turn 36 = .ok (.getfield 19, 3) := by decide +kernel
theorem dX5_turn_39 : decode cX5_turn 39 = .ok (.invokevirtual 108, 3) := by decide +kernel
theorem dX5_turn_42 : decode cX5_turn 42 = .ok (.aload_n 0, 1) := by decide +kernel
theorem dX5_turn_43 : decode cX5_turn 43 = .ok (.invokevirtual 120, 3) := by decide +kernel
theorem dX5_turn_46 : decode cX5_turn 46 = .ok (.iinc 2 1, 3) := by decide +kernel
theorem dX5_turn_49 : decode cX5_turn 49 = .ok (.goto (-23), 3) := by decide +kernel
theorem dX5_turn_52 : decode cX5_turn 52 = .ok (.aload_n 0, 1) := by decide +kernel
theorem dX5_turn_53 : decode cX5_turn 53 = .ok (.getfield 19, 3) := by decide +kernel
theorem dX5_turn_56 : decode cX5_turn 56 = .ok (.getfield 95, 3) := by decide +kernel
theorem dX5_turn_59 : decode cX5_turn 59 = .ok (.ireturn, 1) := by decide +kernel
theorem dX5_rows_0 : decode cX5_rows 0 = .ok (.aload_n 0, 1) := by decide +kernel
theorem dX5_rows_1 : decode cX5_rows 1 = .ok (.getfield 19, 3) := by decide +kernel
theorem dX5_rows_4 : decode cX5_rows 4 = .ok (.getfield 95, 3) := by decide +kernel
theorem dX5_rows_7 : decode cX5_rows 7 = .ok (.ireturn, 1) := by decide +kernel
theorem dX5_columns_0 : decode cX5_columns 0 = .ok (.aload_n 0, 1) := by decide +kernel
theorem dX5_columns_1 : decode cX5_columns 1 = .ok (.getfield 19, 3) := by decide +kernel
theorem dX5_columns_4 : decode cX5_columns 4 = .ok (.getfield 99, 3) := by decide +kernel
theorem dX5_columns_7 : decode cX5_columns 7 = .ok (.ireturn, 1) := by decide +kernel
theorem dX5_tile_0 : decode cX5_tile 0 = .ok (.aload_n 0, 1) := by decide +kernel
theorem dX5_tile_1 : decode cX5_tile 1 = .ok (.getfield 19, 3) := by decide +kernel
theorem dX5_tile_4 : decode cX5_tile 4 = .ok (.iload_n 1, 1) := by decide +kernel
theorem dX5_tile_5 : decode cX5_tile 5 = .ok (.iload_n 2, 1) := by decide +kernel
theorem dX5_tile_6 : decode cX5_tile 6 = .ok (.invokevirtual 73, 3) := by decide +kernel
theorem dX5_tile_9 : decode cX5_tile 9 = .ok (.ifCond .ne 5, 3) := by decide +kernel
theorem dX5_tile_12 : decode cX5_tile 12 = .ok (.iconst (-1), 1) := by decide +kernel
theorem dX5_tile_13 : decode cX5_tile 13 = .ok (.ireturn, 1) := by decide +kernel
theorem dX5_tile_14 : decode cX5_tile 14 = .ok (.iload_n 3, 1) := by decide +kernel
theorem dX5_tile_15 : decode cX5_tile 15 = .ok (.tableswitch 104 0 5 #[37, 55, 65, 72, 79, 97], 37) := by decide +kernel
theorem dX5_tile_52 : decode cX5_tile 52 = .ok (.aload_n 0, 1) := by decide +kernel
theorem dX5_tile_53 : decode cX5_tile 53 = .ok (.getfield 19, 3) := by decide +kernel
theorem dX5_tile_56 : decode cX5_tile 56 = .ok (.iload_n 1, 1) := by decide +kernel
theorem dX5_tile_57 : decode cX5_tile 57 = .ok (.iload_n 2, 1) := by decide +kernel
theorem dX5_tile_58 : decode cX5_tile 58 = .ok (.invokevirtual 77, 3) := by decide +kernel
theorem dX5_tile_61 : decode cX5_tile 61 = .ok (.ifCond .eq 7, 3) := by decide +kernel
theorem dX5_tile_64 : decode cX5_tile 64 = .ok (.iconst 1, 1) := by decide +kernel
theorem dX5_tile_65 : decode cX5_tile 65 = .ok (.goto 4, 3) := by decide +kernel
theorem dX5_tile_68 : decode cX5_tile 68 = .ok (.iconst 0, 1) := by decide +kernel
theorem dX5_tile_69 : decode cX5_tile 69 = .ok (.ireturn, 1) := by decide +kernel
theorem dX5_tile_70 : decode cX5_tile 70 = .ok (.aload_n 0, 1) := by decide +kernel
theorem dX5_tile_71 : decode cX5_tile 71 = .ok (.getfield 19, 3) := by decide +kernel
theorem dX5_tile_74 : decode cX5_tile 74 = .ok (.iload_n 1, 1) := by decide +kernel
theorem dX5_tile_75 : decode cX5_tile 75 = .ok (.iload_n 2, 1) := by decide +kernel
theorem dX5_tile_76 : decode cX5_tile 76 = .ok (.invokevirtual 111, 3) := by decide +kernel
theorem dX5_tile_79 : decode cX5_tile 79 = .ok (.ireturn, 1) := by decide +kernel
theorem dX5_tile_80 : decode cX5_tile 80 = .ok (.aload_n 0, 1) := by decide +kernel
theorem dX5_tile_81 : decode cX5_tile 81 = .ok (.iload_n 1, 1) := by decide +kernel
theorem dX5_tile_82 : decode cX5_tile 82 = .ok (.iload_n 2, 1) := by decide +kernel
theorem dX5_tile_83 : decode cX5_tile 83 = .ok (.invokevirtual 123, 3) := by decide +kernel
theorem dX5_tile_86 : decode cX5_tile 86 = .ok (.ireturn, 1) := by decide +kernel
theorem dX5_tile_87 : decode cX5_tile 87 = .ok (.aload_n 0, 1) := by decide +kernel
theorem dX5_tile_88 : decode cX5_tile 88 = .ok (.iload_n 1, 1) := by decide +kernel
theorem dX5_tile_89 : decode cX5_tile 89 = .ok (.iload_n 2, 1) := by decide +kernel
theorem dX5_tile_90 : decode cX5_tile 90 = .ok (.invokevirtual 126, 3) := by decide +kernel
theorem dX5_tile_93 : decode cX5_tile 93 = .ok (.ireturn, 1) := by decide +kernel
theorem dX5_tile_94 : decode cX5_tile 94 = .ok (.aload_n 0, 1) := by decide +kernel
theorem dX5_tile_95 : decode cX5_tile 95 = .ok (.getfield 19, 3) := by decide +kernel
theorem dX5_tile_98 : decode cX5_tile 98 = .ok (.iload_n 1, 1) := by decide +kernel
theorem dX5_tile_99 : decode cX5_tile 99 = .ok (.iload_n 2, 1) := by decide +kernel
theorem dX5_tile_100 : decode cX5_tile 100 = .ok (.invokevirtual 129, 3) := by decide +kernel
theorem dX5_tile_103 : decode cX5_tile 103 = .ok (.ifCond .eq 7, 3) := by decide +kernel
theorem dX5_tile_106 : decode cX5_tile 106 = .ok (.iconst 1, 1) := by decide +kernel
theorem dX5_tile_107 : decode cX5_tile 107 = .ok (.goto 4, 3) := by decide +kernel
theorem dX5_tile_110 : decode cX5_tile 110 = .ok (.iconst 0, 1) := by decide +kernel
theorem dX5_tile_111 : decode cX5_tile 111 = .ok (.ireturn, 1) := by decide +kernel
theorem dX5_tile_112 : decode cX5_tile 112 = .ok (.aload_n 0, 1) := by decide +kernel
theorem dX5_tile_113 : decode cX5_tile 113 = .ok (.iload_n 1, 1) := by decide +kernel
theorem dX5_tile_114 : decode cX5_tile 114 = .ok (.iload_n 2, 1) := by decide +kernel
theorem dX5_tile_115 : decode cX5_tile 115 = .ok (.invokevirtual 132, 3) := by decide +kernel
theorem dX5_tile_118 : decode cX5_tile 118 = .ok (.ireturn, 1) := by decide +kernel
theorem dX5_tile_119 : decode cX5_tile 119 = .ok (.bipush (-2), 2) := by decide +kernel
theorem dX5_tile_121 : decode cX5_tile 121 = .ok (.ireturn, 1) := by decide +kernel
theorem dX5_pin_0 : decode cX5_pin 0 = .ok (.aload_n 0, 1) := by decide +kernel
theorem dX5_pin_1 : decode cX5_pin 1 = .ok (.getfield 19, 3) := by decide +kernel
theorem dX5_pin_4 : decode cX5_pin 4 = .ok (.iload_n 1, 1) := by decide +kernel
theorem dX5_pin_5 : decode cX5_pin 5 = .ok (.iload_n 2, 1) := by decide +kernel
theorem dX5_pin_6 : decode cX5_pin 6 = .ok (.invokevirtual 73, 3) := by decide +kernel
theorem dX5_pin_9 : decode cX5_pin 9 = .ok (.ifCond .eq 10, 3) := by decide +kernel
theorem dX5_pin_12 : decode cX5_pin 12 = .ok (.iload_n 3, 1) := by decide +kernel
theorem dX5_pin_13 : decode cX5_pin 13 = .ok (.invokestatic 135, 3) := by decide +kernel
theorem dX5_pin_16 : decode cX5_pin 16 = .ok (.ifCond .ne 5, 3) := by decide +kernel
theorem dX5_pin_19 : decode cX5_pin 19 = .ok (.iconst (-1), 1) := by decide +kernel
theorem dX5_pin_20 : decode cX5_pin 20 = .ok (.ireturn, 1) := by decide +kernel
theorem dX5_pin_21 : decode cX5_pin 21 = .ok (.aload_n 0, 1) := by decide +kernel
theorem dX5_pin_22 : decode cX5_pin 22 = .ok (.getfield 19, 3) := by decide +kernel
theorem dX5_pin_25 : decode cX5_pin 25 = .ok (.iload_n 1, 1) := by decide +kernel
theorem dX5_pin_26 : decode cX5_pin 26 = .ok (.iload_n 2, 1) := by decide +kernel
theorem dX5_pin_27 : decode cX5_pin 27 = .ok (.invokevirtual 77, 3) := by decide +kernel
theorem dX5_pin_30 : decode cX5_pin 30 = .ok (.ifCond .ne 6, 3) := by decide +kernel
theorem dX5_pin_33 : decode cX5_pin 33 = .ok (.bipush (-3), 2) := by decide +kernel
theorem dX5_pin_35 : decode cX5_pin 35 = .ok (.ireturn, 1) := by decide +kernel
theorem dX5_pin_36 : decode cX5_pin 36 = .ok (.aload_n 0, 1) := by decide +kernel
theorem dX5_pin_37 : decode cX5_pin 37 = .ok (.getfield 36, 3) := by decide +kernel
theorem dX5_pin_40 : decode cX5_pin 40 = .ok (.aload_n 0, 1) := by decide +kernel
theorem dX5_pin_41 : decode cX5_pin 41 = .ok (.getfield 19, 3) := by decide +kernel
theorem dX5_pin_44 : decode cX5_pin 44 = .ok (.invokevirtual 58, 3) := by decide +kernel
theorem dX5_pin_47 : decode cX5_pin 47 = .ok (.aload_n 0, 1) := by decide +kernel
theorem dX5_pin_48 : decode cX5_pin 48 = .ok (.getfield 19, 3) := by decide +kernel
theorem dX5_pin_51 : decode cX5_pin 51 = .ok (.iload_n 1, 1) := by decide +kernel
theorem dX5_pin_52 : decode cX5_pin 52 = .ok (.iload_n 2, 1) := by decide +kernel
theorem dX5_pin_53 : decode cX5_pin 53 = .ok (.iload_n 3, 1) := by decide +kernel
theorem dX5_pin_54 : decode cX5_pin 54 = .ok (.invokevirtual 138, 3) := by decide +kernel
theorem dX5_pin_57 : decode cX5_pin 57 = .ok (.aload_n 0, 1) := by decide +kernel
theorem dX5_pin_58 : decode cX5_pin 58 = .ok (.iload_n 1, 1) := by decide +kernel
theorem dX5_pin_59 : decode cX5_pin 59 = .ok (.iload_n 2, 1) := by decide +kernel
theorem dX5_pin_60 : decode cX5_pin 60 = .ok (.invokevirtual 132, 3) := by decide +kernel
theorem dX5_pin_63 : decode cX5_pin 63 = .ok (.ireturn, 1) := by decide +kernel
theorem dX5_unpin_0 : decode cX5_unpin 0 = .ok (.aload_n 0, 1) := by decide +kernel
theorem dX5_unpin_1 : decode cX5_unpin 1 = .ok (.getfield 19, 3) := by decide +kernel
theorem dX5_unpin_4 : decode cX5_unpin 4 = .ok (.iload_n 1, 1) := by decide +kernel
theorem dX5_unpin_5 : decode cX5_unpin 5 = .ok (.iload_n 2, 1) := by decide +kernel
theorem dX5_unpin_6 : decode cX5_unpin 6 = .ok (.invokevirtual 73, 3) := by decide +kernel
theorem dX5_unpin_9 : decode cX5_unpin 9 = .ok (.ifCond .ne 5, 3) := by decide +kernel
theorem dX5_unpin_12 : decode cX5_unpin 12 = .ok (.iconst (-1), 1) := by decide +kernel
theorem dX5_unpin_13 : decode cX5_unpin 13 = .ok (.ireturn, 1) := by decide +kernel
theorem dX5_unpin_14 : decode cX5_unpin 14 = .ok (.aload_n 0, 1) := by decide +kernel
theorem dX5_unpin_15 : decode cX5_unpin 15 = .ok (.getfield 19, 3) := by decide +kernel
theorem dX5_unpin_18 : decode cX5_unpin 18 = .ok (.iload_n 1, 1) := by decide +kernel
theorem dX5_unpin_19 : decode cX5_unpin 19 = .ok (.iload_n 2, 1) := by decide +kernel
theorem dX5_unpin_20 : decode cX5_unpin 20 = .ok (.invokevirtual 129, 3) := by decide +kernel
theorem dX5_unpin_23 : decode cX5_unpin 23 = .ok (.ifCond .ne 6, 3) := by decide +kernel
theorem dX5_unpin_26 : decode cX5_unpin 26 = .ok (.bipush (-3), 2) := by decide +kernel
theorem dX5_unpin_28 : decode cX5_unpin 28 = .ok (.ireturn, 1) := by decide +kernel
theorem dX5_unpin_29 : decode cX5_unpin 29 = .ok (.aload_n 0, 1) := by decide +kernel
theorem dX5_unpin_30 : decode cX5_unpin 30 = .ok (.getfield 36, 3) := by decide +kernel
theorem dX5_unpin_33 : decode cX5_unpin 33 = .ok (.aload_n 0, 1) := by decide +kernel
theorem dX5_unpin_34 : decode cX5_unpin 34 = .ok (.getfield 19, 3) := by decide +kernel
theorem dX5_unpin_37 : decode cX5_unpin 37 = .ok (.invokevirtual 58, 3) := by decide +kernel
theorem dX5_unpin_40 : decode cX5_unpin 40 = .ok (.aload_n 0, 1) := by decide +kernel
theorem dX5_unpin_41 : decode cX5_unpin 41 = .ok (.getfield 19, 3) := by decide +kernel
theorem dX5_unpin_44 : decode cX5_unpin 44 = .ok (.iload_n 1, 1) := by decide +kernel
theorem dX5_unpin_45 : decode cX5_unpin 45 = .ok (.iload_n 2, 1) := by decide +kernel
theorem dX5_unpin_46 : decode cX5_unpin 46 = .ok (.invokevirtual 142, 3) := by decide +kernel
theorem dX5_unpin_49 : decode cX5_unpin 49 = .ok (.istore_n 3, 1) := by decide +kernel
theorem dX5_unpin_50 : decode cX5_unpin 50 = .ok (.aload_n 0, 1) := by decide +kernel
theorem dX5_unpin_51 : decode cX5_unpin 51 = .ok (.getfield 19, 3) := by decide +kernel
theorem dX5_unpin_54 : decode cX5_unpin 54 = .ok (.iload_n 1, 1) := by decide +kernel
theorem dX5_unpin_55 : decode cX5_unpin 55 = .ok (.iload_n 2, 1) := by decide +kernel
theorem dX5_unpin_56 : decode cX5_unpin 56 = .ok (.iconst (-1), 1) := by decide +kernel
theorem dX5_unpin_57 : decode cX5_unpin 57 = .ok (.invokevirtual 138, 3) := by decide +kernel
theorem dX5_unpin_60 : decode cX5_unpin 60 = .ok (.iload_n 3, 1) := by decide +kernel
theorem dX5_unpin_61 : decode cX5_unpin 61 = .ok (.ireturn, 1) := by decide +kernel
theorem dX5_faults_0 : decode cX5_faults 0 = .ok (.iconst 0, 1) := by decide +kernel
theorem dX5_faults_1 : decode cX5_faults 1 = .ok (.istore_n 1, 1) := by decide +kernel
theorem dX5_faults_2 : decode cX5_faults 2 = .ok (.iconst 0, 1) := by decide +kernel
theorem dX5_faults_3 : decode cX5_faults 3 = .ok (.istore_n 2, 1) := by decide +kernel
theorem dX5_faults_4 : decode cX5_faults 4 = .ok (.iload_n 2, 1) := by decide +kernel
theorem dX5_faults_5 : decode cX5_faults 5 = .ok (.aload_n 0, 1) := by decide +kernel
theorem dX5_faults_6 : decode cX5_faults 6 = .ok (.getfield 19, 3) := by decide +kernel
theorem dX5_faults_9 : decode cX5_faults 9 = .ok (.getfield 95, 3) := by decide +kernel
theorem dX5_faults_12 : decode cX5_faults 12 = .ok (.if_icmp .ge 37, 3) := by decide +kernel
theorem dX5_faults_15 : decode cX5_faults 15 = .ok (.iconst 0, 1) := by decide +kernel
theorem dX5_faults_16 : decode cX5_faults 16 = .ok (.istore_n 3, 1) := by decide +kernel
theorem dX5_faults_17 : decode cX5_faults 17 = .ok (.iload_n 3, 1) := by decide +kernel
theorem dX5_faults_18 : decode cX5_faults 18 = .ok (.aload_n 0, 1) := by decide +kernel
theorem dX5_faults_19 : decode cX5_faults 19 = .ok (.getfield 19, 3) := by decide +kernel
theorem dX5_faults_22 : decode cX5_faults 22 = .ok (.getfield 99, 3) := by decide +kernel
theorem dX5_faults_25 : decode cX5_faults 25 = .ok (.if_icmp .ge 18, 3) := by decide +kernel
theorem dX5_faults_28 : decode cX5_faults 28 = .ok (.iload_n 1, 1) := by decide +kernel
theorem dX5_faults_29 : decode cX5_faults 29 = .ok (.aload_n 0, 1) := by decide +kernel
theorem dX5_faults_30 : decode cX5_faults 30 = .ok (.iload_n 2, 1) := by decide +kernel
theorem dX5_faults_31 : decode cX5_faults 31 = .ok (.iload_n 3, 1) := by decide +kernel
theorem dX5_faults_32 : decode cX5_faults 32 = .ok (.invokevirtual 132, 3) := by decide +kernel
theorem dX5_faults_35 : decode cX5_faults 35 = .ok (.iadd, 1) := by decide +kernel
theorem dX5_faults_36 : decode cX5_faults 36 = .ok (.istore_n 1, 1) := by decide +kernel
theorem dX5_faults_37 : decode cX5_faults 37 = .ok (.iinc 3 1, 3) := by decide +kernel
theorem dX5_faults_40 : decode cX5_faults 40 = .ok (.goto (-23), 3) := by decide +kernel
theorem dX5_faults_43 : decode cX5_faults 43 = .ok (.iinc 2 1, 3) := by decide +kernel
theorem dX5_faults_46 : decode cX5_faults 46 = .ok (.goto (-42), 3) := by decide +kernel
theorem dX5_faults_49 : decode cX5_faults 49 = .ok (.iload_n 1, 1) := by decide +kernel
theorem dX5_faults_50 : decode cX5_faults 50 = .ok (.ireturn, 1) := by decide +kernel
theorem dX5_firstFault_0 : decode cX5_firstFault 0 = .ok (.iconst 0, 1) := by decide +kernel
theorem dX5_firstFault_1 : decode cX5_firstFault 1 = .ok (.istore_n 1, 1) := by decide +kernel
theorem dX5_firstFault_2 : decode cX5_firstFault 2 = .ok (.iload_n 1, 1) := by decide +kernel
theorem dX5_firstFault_3 : decode cX5_firstFault 3 = .ok (.aload_n 0, 1) := by decide +kernel
theorem dX5_firstFault_4 : decode cX5_firstFault 4 = .ok (.getfield 19, 3) := by decide +kernel
theorem dX5_firstFault_7 : decode cX5_firstFault 7 = .ok (.getfield 95, 3) := by decide +kernel
theorem dX5_firstFault_10 : decode cX5_firstFault 10 = .ok (.if_icmp .ge 43, 3) := by decide +kernel
theorem dX5_firstFault_13 : decode cX5_firstFault 13 = .ok (.iconst 0, 1) := by decide +kernel
theorem dX5_firstFault_14 : decode cX5_firstFault 14 = .ok (.istore_n 2, 1) := by decide +kernel
theorem dX5_firstFault_15 : decode cX5_firstFault 15 = .ok (.iload_n 2, 1) := by decide +kernel
theorem dX5_firstFault_16 : decode cX5_firstFault 16 = .ok (.aload_n 0, 1) := by decide +kernel
theorem dX5_firstFault_17 : decode cX5_firstFault 17 = .ok (.getfield 19, 3) := by decide +kernel
theorem dX5_firstFault_20 : decode cX5_firstFault 20 = .ok (.getfield 99, 3) := by decide +kernel
theorem dX5_firstFault_23 : decode cX5_firstFault 23 = .ok (.if_icmp .ge 24, 3) := by decide +kernel
theorem dX5_firstFault_26 : decode cX5_firstFault 26 = .ok (.aload_n 0, 1) := by decide +kernel
theorem dX5_firstFault_27 : decode cX5_firstFault 27 = .ok (.iload_n 1, 1) := by decide +kernel
theorem dX5_firstFault_28 : decode cX5_firstFault 28 = .ok (.iload_n 2, 1) := by decide +kernel
theorem dX5_firstFault_29 : decode cX5_firstFault 29 = .ok (.invokevirtual 132, 3) := by decide +kernel
theorem dX5_firstFault_32 : decode cX5_firstFault 32 = .ok (.ifCond .le 9, 3) := by decide +kernel
theorem dX5_firstFault_35 : decode cX5_firstFault 35 = .ok (.iload_n 1, 1) := by decide +kernel
theorem dX5_firstFault_36 : decode cX5_firstFault 36 = .ok (.iload_n 2, 1) := by decide +kernel
theorem dX5_firstFault_37 : decode cX5_firstFault 37 = .ok (.invokestatic 145, 3) := by decide +kernel
theorem dX5_firstFault_40 : decode cX5_firstFault 40 = .ok (.ireturn, 1) := by decide +kernel
theorem dX5_firstFault_41 : decode cX5_firstFault 41 = .ok (.iinc 2 1, 3) := by decide +kernel
theorem dX5_firstFault_44 : decode cX5_firstFault 44 = .ok (.goto (-29), 3) := by decide +kernel
theorem dX5_firstFault_47 : decode cX5_firstFault 47 = .ok (.iinc 1 1, 3) := by decide +kernel
theorem dX5_firstFault_50 : decode cX5_firstFault 50 = .ok (.goto (-48), 3) := by decide +kernel
theorem dX5_firstFault_53 : decode cX5_firstFault 53 = .ok (.bipush (-6), 2) := by decide +kernel
theorem dX5_firstFault_55 : decode cX5_firstFault 55 = .ok (.ireturn, 1) := by decide +kernel
theorem dX5_maskOf_0 : decode cX5_maskOf 0 = .ok (.iload_n 1, 1) := by decide +kernel
theorem dX5_maskOf_1 : decode cX5_maskOf 1 = .ok (.invokestatic 135, 3) := by decide +kernel
theorem dX5_maskOf_4 : decode cX5_maskOf 4 = .ok (.ifCond .eq 14, 3) := by decide +kernel
theorem dX5_maskOf_7 : decode cX5_maskOf 7 = .ok (.aload_n 0, 1) := by decide +kernel
theorem dX5_maskOf_8 : decode cX5_maskOf 8 = .ok (.getfield 12, 3) := by decide +kernel
theorem dX5_maskOf_11 : decode cX5_maskOf 11 = .ok (.iload_n 1, 1) := by decide +kernel
theorem dX5_maskOf_12 : decode cX5_maskOf 12 = .ok (.invokevirtual 148, 3) := by decide +kernel
theorem dX5_maskOf_15 : decode cX5_maskOf 15 = .ok (.goto 4, 3) := by decide +kernel
theorem dX5_maskOf_18 : decode cX5_maskOf 18 = .ok (.iconst (-1), 1) := by decide +kernel
theorem dX5_maskOf_19 : decode cX5_maskOf 19 = .ok (.ireturn, 1) := by decide +kernel
theorem dX5_land_0 : decode cX5_land 0 = .ok (.aload_n 0, 1) := by decide +kernel
theorem dX5_land_1 : decode cX5_land 1 = .ok (.getfield 19, 3) := by decide +kernel
theorem dX5_land_4 : decode cX5_land 4 = .ok (.invokevirtual 165, 3) := by decide +kernel
theorem dX5_land_7 : decode cX5_land 7 = .ok (.ireturn, 1) := by decide +kernel
theorem dX5_coast_0 : decode cX5_coast 0 = .ok (.iconst 0, 1) := by decide +kernel
theorem dX5_coast_1 : decode cX5_coast 1 = .ok (.istore_n 1, 1) := by decide +kernel
theorem dX5_coast_2 : decode cX5_coast 2 = .ok (.iconst 0, 1) := by decide +kernel
theorem dX5_coast_3 : decode cX5_coast 3 = .ok (.istore_n 2, 1) := by decide +kernel
theorem dX5_coast_4 : decode cX5_coast 4 = .ok (.iload_n 2, 1) := by decide +kernel
theorem dX5_coast_5 : decode cX5_coast 5 = .ok (.aload_n 0, 1) := by decide +kernel
theorem dX5_coast_6 : decode cX5_coast 6 = .ok (.getfield 19, 3) := by decide +kernel
theorem dX5_coast_9 : decode cX5_coast 9 = .ok (.getfield 95, 3) := by decide +kernel
theorem dX5_coast_12 : decode cX5_coast 12 = .ok (.if_icmp .ge 60, 3) := by decide +kernel
theorem dX5_coast_15 : decode cX5_coast 15 = .ok (.iconst 0, 1) := by decide +kernel
theorem dX5_coast_16 : decode cX5_coast 16 = .ok (.istore_n 3, 1) := by decide +kernel
theorem dX5_coast_17 : decode cX5_coast 17 = .ok (.iload_n 3, 1) := by decide +kernel
theorem dX5_coast_18 : decode cX5_coast 18 = .ok (.aload_n 0, 1) := by decide +kernel
theorem dX5_coast_19 : decode cX5_coast 19 = .ok (.getfield 19, 3) := by decide +kernel
theorem dX5_coast_22 : decode cX5_coast 22 = .ok (.getfield 99, 3) := by decide +kernel
theorem dX5_coast_25 : decode cX5_coast 25 = .ok (.if_icmp .ge 41, 3) := by decide +kernel
theorem dX5_coast_28 : decode cX5_coast 28 = .ok (.aload_n 0, 1) := by decide +kernel
theorem dX5_coast_29 : decode cX5_coast 29 = .ok (.getfield 19, 3) := by decide +kernel
theorem dX5_coast_32 : decode cX5_coast 32 = .ok (.iload_n 2, 1) := by decide +kernel
theorem dX5_coast_33 : decode cX5_coast 33 = .ok (.iload_n 3, 1) := by decide +kernel
theorem dX5_coast_34 : decode cX5_coast 34 = .ok (.invokevirtual 77, 3) := by decide +kernel
theorem dX5_coast_37 : decode cX5_coast 37 = .ok (.ifCond .eq 23, 3) := by decide +kernel
theorem dX5_coast_40 : decode cX5_coast 40 = .ok (.iload_n 1, 1) := by decide +kernel
theorem dX5_coast_41 : decode cX5_coast 41 = .ok (.aload_n 0, 1) := by decide +kernel
theorem dX5_coast_42 : decode cX5_coast 42 = .ok (.getfield 19, 3) := by decide +kernel
theorem dX5_coast_45 : decode cX5_coast 45 = .ok (.iload_n 2, 1) := by decide +kernel
theorem dX5_coast_46 : decode cX5_coast 46 = .ok (.iload_n 3, 1) := by decide +kernel
theorem dX5_coast_47 : decode cX5_coast 47 = .ok (.invokevirtual 111, 3) := by decide +kernel
theorem dX5_coast_50 : decode cX5_coast 50 = .ok (.iconst (-1), 1) := by decide +kernel
theorem dX5_coast_51 : decode cX5_coast 51 = .ok (.ixor, 1) := by decide +kernel
theorem dX5_coast_52 : decode cX5_coast 52 = .ok (.bipush 85, 2) := by decide +kernel
theorem dX5_coast_54 : decode cX5_coast 54 = .ok (.iand, 1) := by decide +kernel
theorem dX5_coast_55 : decode cX5_coast 55 = .ok (.invokestatic 114, 3) := by decide +kernel
theorem dX5_coast_58 : decode cX5_coast 58 = .ok (.iadd, 1) := by decide +kernel
theorem dX5_coast_59 : decode cX5_coast 59 = .ok (.istore_n 1, 1) := by decide +kernel
theorem dX5_coast_60 : decode cX5_coast 60 = .ok (.iinc 3 1, 3) := by decide +kernel
theorem dX5_coast_63 : decode cX5_coast 63 = .ok (.goto (-46), 3) := by decide +kernel
theorem dX5_coast_66 : decode cX5_coast 66 = .ok (.iinc 2 1, 3) := by decide +kernel
theorem dX5_coast_69 : decode cX5_coast 69 = .ok (.goto (-65), 3) := by decide +kernel
theorem dX5_coast_72 : decode cX5_coast 72 = .ok (.iload_n 1, 1) := by decide +kernel
theorem dX5_coast_73 : decode cX5_coast 73 = .ok (.ireturn, 1) := by decide +kernel
theorem dX5_islands_0 : decode cX5_islands 0 = .ok (.aload_n 0, 1) := by decide +kernel
theorem dX5_islands_1 : decode cX5_islands 1 = .ok (.getfield 43, 3) := by decide +kernel
theorem dX5_islands_4 : decode cX5_islands 4 = .ok (.invokevirtual 88, 3) := by decide +kernel
theorem dX5_islands_7 : decode cX5_islands 7 = .ok (.iconst 0, 1) := by decide +kernel
theorem dX5_islands_8 : decode cX5_islands 8 = .ok (.istore_n 1, 1) := by decide +kernel
theorem dX5_islands_9 : decode cX5_islands 9 = .ok (.iconst 0, 1) := by decide +kernel
theorem dX5_islands_10 : decode cX5_islands 10 = .ok (.istore_n 2, 1) := by decide +kernel
theorem dX5_islands_11 : decode cX5_islands 11 = .ok (.iload_n 2, 1) := by decide +kernel
theorem dX5_islands_12 : decode cX5_islands 12 = .ok (.aload_n 0, 1) := by decide +kernel
theorem dX5_islands_13 : decode cX5_islands 13 = .ok (.getfield 19, 3) := by decide +kernel
theorem dX5_islands_16 : decode cX5_islands 16 = .ok (.getfield 95, 3) := by decide +kernel
theorem dX5_islands_19 : decode cX5_islands 19 = .ok (.if_icmp .ge 69, 3) := by decide +kernel
theorem dX5_islands_22 : decode cX5_islands 22 = .ok (.iconst 0, 1) := by decide +kernel
theorem dX5_islands_23 : decode cX5_islands 23 = .ok (.istore_n 3, 1) := by decide +kernel
theorem dX5_islands_24 : decode cX5_islands 24 = .ok (.iload_n 3, 1) := by decide +kernel
theorem dX5_islands_25 : decode cX5_islands 25 = .ok (.aload_n 0, 1) := by decide +kernel
theorem dX5_islands_26 : decode cX5_islands 26 = .ok (.getfield 19, 3) := by decide +kernel
theorem dX5_islands_29 : decode cX5_islands 29 = .ok (.getfield 99, 3) := by decide +kernel
theorem dX5_islands_32 : decode cX5_islands 32 = .ok (.if_icmp .ge 50, 3) := by decide +kernel
theorem dX5_islands_35 : decode cX5_islands 35 = .ok (.aload_n 0, 1) := by decide +kernel
theorem dX5_islands_36 : decode cX5_islands 36 = .ok (.getfield 19, 3) := by decide +kernel
theorem dX5_islands_39 : decode cX5_islands 39 = .ok (.iload_n 2, 1) := by decide +kernel
theorem dX5_islands_40 : decode cX5_islands 40 = .ok (.iload_n 3, 1) := by decide +kernel
theorem dX5_islands_41 : decode cX5_islands 41 = .ok (.invokevirtual 77, 3) := by decide +kernel
theorem dX5_islands_44 : decode cX5_islands 44 = .ok (.ifCond .eq 32, 3) := by decide +kernel
theorem dX5_islands_47 : decode cX5_islands 47 = .ok (.aload_n 0, 1) := by decide +kernel
theorem dX5_islands_48 : decode cX5_islands 48 = .ok (.getfield 43, 3) := by decide +kernel
theorem dX5_islands_51 : decode cX5_islands 51 = .ok (.iload_n 2, 1) := by decide +kernel
theorem dX5_islands_52 : decode cX5_islands 52 = .ok (.iload_n 3, 1) := by decide +kernel
theorem dX5_islands_53 : decode cX5_islands 53 = .ok (.invokevirtual 102, 3) := by decide +kernel
theorem dX5_islands_56 : decode cX5_islands 56 = .ok (.ifCond .ne 20, 3) := by decide +kernel
theorem dX5_islands_59 : decode cX5_islands 59 = .ok (.aload_n 0, 1) := by decide +kernel
theorem dX5_islands_60 : decode cX5_islands 60 = .ok (.getfield 43, 3) := by decide +kernel
theorem dX5_islands_63 : decode cX5_islands 63 = .ok (.aload_n 0, 1) := by decide +kernel
theorem dX5_islands_64 : decode cX5_islands 64 = .ok (.getfield 19, 3) := by decide +kernel
theorem dX5_islands_67 : decode cX5_islands 67 = .ok (.iload_n 2, 1) := by decide +kernel
theorem dX5_islands_68 : decode cX5_islands 68 = .ok (.iload_n 3, 1) := by decide +kernel
theorem dX5_islands_69 : decode cX5_islands 69 = .ok (.iconst 1, 1) := by decide +kernel
theorem dX5_islands_70 : decode cX5_islands 70 = .ok (.invokevirtual 91, 3) := by decide +kernel
theorem dX5_islands_73 : decode cX5_islands 73 = .ok (.iinc 1 1, 3) := by decide +kernel
theorem dX5_islands_76 : decode cX5_islands 76 = .ok (.iinc 3 1, 3) := by decide +kernel
theorem dX5_islands_79 : decode cX5_islands 79 = .ok (.goto (-55), 3) := by decide +kernel
theorem dX5_islands_82 : decode cX5_islands 82 = .ok (.iinc 2 1, 3) := by decide +kernel
theorem dX5_islands_85 : decode cX5_islands 85 = .ok (.goto (-74), 3) := by decide +kernel
theorem dX5_islands_88 : decode cX5_islands 88 = .ok (.iload_n 1, 1) := by decide +kernel
theorem dX5_islands_89 : decode cX5_islands 89 = .ok (.ireturn, 1) := by decide +kernel
theorem dX5_lakes_0 : decode cX5_lakes 0 = .ok (.aload_n 0, 1) := by decide +kernel
theorem dX5_lakes_1 : decode cX5_lakes 1 = .ok (.getfield 43, 3) := by decide +kernel
theorem dX5_lakes_4 : decode cX5_lakes 4 = .ok (.invokevirtual 88, 3) := by decide +kernel
theorem dX5_lakes_7 : decode cX5_lakes 7 = .ok (.iconst 0, 1) := by decide +kernel
theorem dX5_lakes_8 : decode cX5_lakes 8 = .ok (.istore_n 1, 1) := by decide +kernel
theorem dX5_lakes_9 : decode cX5_lakes 9 = .ok (.iconst 0, 1) := by decide +kernel
theorem dX5_lakes_10 : decode cX5_lakes 10 = .ok (.istore_n 2, 1) := by decide +kernel
theorem dX5_lakes_11 : decode cX5_lakes 11 = .ok (.iload_n 2, 1) := by decide +kernel
theorem dX5_lakes_12 : decode cX5_lakes 12 = .ok (.aload_n 0, 1) := by decide +kernel
theorem dX5_lakes_13 : decode cX5_lakes 13 = .ok (.getfield 19, 3) := by decide +kernel
theorem dX5_lakes_16 : decode cX5_lakes 16 = .ok (.getfield 95, 3) := by decide +kernel
theorem dX5_lakes_19 : decode cX5_lakes 19 = .ok (.if_icmp .ge 84, 3) := by decide +kernel
theorem dX5_lakes_22 : decode cX5_lakes 22 = .ok (.iconst 0, 1) := by decide +kernel
theorem dX5_lakes_23 : decode cX5_lakes 23 = .ok (.istore_n 3, 1) := by decide +kernel
theorem dX5_lakes_24 : decode cX5_lakes 24 = .ok (.iload_n 3, 1) := by decide +kernel
theorem dX5_lakes_25 : decode cX5_lakes 25 = .ok (.aload_n 0, 1) := by decide +kernel
theorem dX5_lakes_26 : decode cX5_lakes 26 = .ok (.getfield 19, 3) := by decide +kernel
theorem dX5_lakes_29 : decode cX5_lakes 29 = .ok (.getfield 99, 3) := by decide +kernel
theorem dX5_lakes_32 : decode cX5_lakes 32 = .ok (.if_icmp .ge 65, 3) := by decide +kernel
theorem dX5_lakes_35 : decode cX5_lakes 35 = .ok (.aload_n 0, 1) := by decide +kernel
theorem dX5_lakes_36 : decode cX5_lakes 36 = .ok (.getfield 19, 3) := by decide +kernel
theorem dX5_lakes_39 : decode cX5_lakes 39 = .ok (.iload_n 2, 1) := by decide +kernel
theorem dX5_lakes_40 : decode cX5_lakes 40 = .ok (.iload_n 3, 1) := by decide +kernel
theorem dX5_lakes_41 : decode cX5_lakes 41 = .ok (.invokevirtual 77, 3) := by decide +kernel
theorem dX5_lakes_44 : decode cX5_lakes 44 = .ok (.ifCond .ne 47, 3) := by decide +kernel
theorem dX5_lakes_47 : decode cX5_lakes 47 = .ok (.aload_n 0, 1) := by decide +kernel
theorem dX5_lakes_48 : decode cX5_lakes 48 = .ok (.getfield 43, 3) := by decide +kernel
theorem dX5_lakes_51 : decode cX5_lakes 51 = .ok (.iload_n 2, 1) := by decide +kernel
theorem dX5_lakes_52 : decode cX5_lakes 52 = .ok (.iload_n 3, 1) := by decide +kernel
theorem dX5_lakes_53 : decode cX5_lakes 53 = .ok (.invokevirtual 102, 3) := by decide +kernel
theorem dX5_lakes_56 : decode cX5_lakes 56 = .ok (.ifCond .ne 35, 3) := by decide +kernel
theorem dX5_lakes_59 : decode cX5_lakes 59 = .ok (.aload_n 0, 1) := by decide +kernel
theorem dX5_lakes_60 : decode cX5_lakes 60 = .ok (.getfield 43, 3) := by decide +kernel
theorem dX5_lakes_63 : decode cX5_lakes 63 = .ok (.aload_n 0, 1) := by decide +kernel
theorem dX5_lakes_64 : decode cX5_lakes 64 = .ok (.getfield 19, 3) := by decide +kernel
theorem dX5_lakes_67 : decode cX5_lakes 67 = .ok (.iload_n 2, 1) := by decide +kernel
theorem dX5_lakes_68 : decode cX5_lakes 68 = .ok (.iload_n 3, 1) := by decide +kernel
theorem dX5_lakes_69 : decode cX5_lakes 69 = .ok (.iconst 2, 1) := by decide +kernel
theorem dX5_lakes_70 : decode cX5_lakes 70 = .ok (.invokevirtual 91, 3) := by decide +kernel
theorem dX5_lakes_73 : decode cX5_lakes 73 = .ok (.iload_n 1, 1) := by decide +kernel
theorem dX5_lakes_74 : decode cX5_lakes 74 = .ok (.aload_n 0, 1) := by decide +kernel
theorem dX5_lakes_75 : decode cX5_lakes 75 = .ok (.getfield 43, 3) := by decide +kernel
theorem dX5_lakes_78 : decode cX5_lakes 78 = .ok (.getfield 172, 3) := by decide +kernel
theorem dX5_lakes_81 : decode cX5_lakes 81 = .ok (.ifCond .eq 7, 3) := by decide +kernel
theorem dX5_lakes_84 : decode cX5_lakes 84 = .ok (.iconst 0, 1) := by decide +kernel
theorem dX5_lakes_85 : decode cX5_lakes 85 = .ok (.goto 4, 3) := by decide +kernel
theorem dX5_lakes_88 : decode cX5_lakes 88 = .ok (.iconst 1, 1) := by decide +kernel
theorem dX5_lakes_89 : decode cX5_lakes 89 = .ok (.iadd, 1) := by decide +kernel
theorem dX5_lakes_90 : decode cX5_lakes 90 = .ok (.istore_n 1, 1) := by decide +kernel
theorem dX5_lakes_91 : decode cX5_lakes 91 = .ok (.iinc 3 1, 3) := by decide +kernel
theorem dX5_lakes_94 : decode cX5_lakes 94 = .ok (.goto (-70), 3) := by decide +kernel
theorem dX5_lakes_97 : decode cX5_lakes 97 = .ok (.iinc 2 1, 3) := by decide +kernel
theorem dX5_lakes_100 : decode cX5_lakes 100 = .ok (.goto (-89), 3) := by decide +kernel
theorem dX5_lakes_103 : decode cX5_lakes 103 = .ok (.iload_n 1, 1) := by decide +kernel
theorem dX5_lakes_104 : decode cX5_lakes 104 = .ok (.ireturn, 1) := by decide +kernel
theorem dX5_region_0 : decode cX5_region 0 = .ok (.aload_n 0, 1) := by decide +kernel
theorem dX5_region_1 : decode cX5_region 1 = .ok (.getfield 19, 3) := by decide +kernel
theorem dX5_region_4 : decode cX5_region 4 = .ok (.iload_n 1, 1) := by decide +kernel
theorem dX5_region_5 : decode cX5_region 5 = .ok (.iload_n 2, 1) := by decide +kernel
theorem dX5_region_6 : decode cX5_region 6 = .ok (.invokevirtual 73, 3) := by decide +kernel
theorem dX5_region_9 : decode cX5_region 9 = .ok (.ifCond .ne 5, 3) := by decide +kernel
theorem dX5_region_12 : decode cX5_region 12 = .ok (.iconst (-1), 1) := by decide +kernel
theorem dX5_region_13 : decode cX5_region 13 = .ok (.ireturn, 1) := by decide +kernel
theorem dX5_region_14 : decode cX5_region 14 = .ok (.aload_n 0, 1) := by decide +kernel
theorem dX5_region_15 : decode cX5_region 15 = .ok (.getfield 43, 3) := by decide +kernel
theorem dX5_region_18 : decode cX5_region 18 = .ok (.invokevirtual 88, 3) := by decide +kernel
theorem dX5_region_21 : decode cX5_region 21 = .ok (.aload_n 0, 1) := by decide +kernel
theorem dX5_region_22 : decode cX5_region 22 = .ok (.getfield 43, 3) := by decide +kernel
theorem dX5_region_25 : decode cX5_region 25 = .ok (.aload_n 0, 1) := by decide +kernel
theorem dX5_region_26 : decode cX5_region 26 = .ok (.getfield 19, 3) := by decide +kernel
theorem dX5_region_29 : decode cX5_region 29 = .ok (.iload_n 1, 1) := by decide +kernel
theorem dX5_region_30 : decode cX5_region 30 = .ok (.iload_n 2, 1) := by decide +kernel
theorem dX5_region_31 : decode cX5_region 31 = .ok (.iload_n 3, 1) := by decide +kernel
theorem dX5_region_32 : decode cX5_region 32 = .ok (.ifCond .eq 7, 3) := by decide +kernel
theorem dX5_region_35 : decode cX5_region 35 = .ok (.iconst 1, 1) := by decide +kernel
theorem dX5_region_36 : decode cX5_region 36 = .ok (.goto 4, 3) := by decide +kernel
theorem dX5_region_39 : decode cX5_region 39 = .ok (.iconst 2, 1) := by decide +kernel
theorem dX5_region_40 : decode cX5_region 40 = .ok (.invokevirtual 91, 3) := by decide +kernel
theorem dX5_region_43 : decode cX5_region 43 = .ok (.aload_n 0, 1) := by decide +kernel
theorem dX5_region_44 : decode cX5_region 44 = .ok (.getfield 43, 3) := by decide +kernel
theorem dX5_region_47 : decode cX5_region 47 = .ok (.getfield 105, 3) := by decide +kernel
theorem dX5_region_50 : decode cX5_region 50 = .ok (.ireturn, 1) := by decide +kernel
theorem dX5_largestIsland_0 : decode cX5_largestIsland 0 = .ok (.aload_n 0, 1) := by decide +kernel
theorem dX5_largestIsland_1 : decode cX5_largestIsland 1 = .ok (.getfield 43, 3) := by decide +kernel
theorem dX5_largestIsland_4 : decode cX5_largestIsland 4 = .ok (.invokevirtual 88, 3) := by decide +kernel
theorem dX5_largestIsland_7 : decode cX5_largestIsland 7 = .ok (.iconst 0, 1) := by decide +kernel
theorem dX5_largestIsland_8 : decode cX5_largestIsland 8 = .ok (.istore_n 1, 1) := by decide +kernel
theorem dX5_largestIsland_9 : decode cX5_largestIsland 9 = .ok (.bipush (-6), 2) := by decide +kernel
theorem dX5_largestIsland_11 : decode cX5_largestIsland 11 = .ok (.istore_n 2, 1) := by decide +kernel
theorem dX5_largestIsland_12 : decode cX5_largestIsland 12 = .ok (.iconst 0, 1) := by decide +kernel
theorem dX5_largestIsland_13 : decode cX5_largestIsland 13 = .ok (.istore_n 3, 1) := by decide +kernel
theorem dX5_largestIsland_14 : decode cX5_largestIsland 14 = .ok (.iload_n 3, 1) := by decide +kernel
theorem dX5_largestIsland_15 : decode cX5_largestIsland 15 = .ok (.aload_n 0, 1) := by decide +kernel
theorem dX5_largestIsland_16 : decode cX5_largestIsland 16 = .ok (.getfield 19, 3) := by decide +kernel
theorem dX5_largestIsland_19 : decode cX5_largestIsland 19 = .ok (.getfield 95, 3) := by decide +kernel
theorem dX5_largestIsland_22 : decode cX5_largestIsland 22 = .ok (.if_icmp .ge 97, 3) := by decide +kernel
theorem dX5_largestIsland_25 : decode cX5_largestIsland 25 = .ok (.iconst 0, 1) := by decide +kernel
theorem dX5_largestIsland_26 : decode cX5_largestIsland 26 = .ok (.istore 4, 2) := by decide +kernel
theorem dX5_largestIsland_28 : decode cX5_largestIsland 28 = .ok (.iload 4, 2) := by decide +kernel
theorem dX5_largestIsland_30 : decode cX5_largestIsland 30 = .ok (.aload_n 0, 1) := by decide +kernel
theorem dX5_largestIsland_31 : decode cX5_largestIsland 31 = .ok (.getfield 19, 3) := by decide +kernel
theorem dX5_largestIsland_34 : decode cX5_largestIsland 34 = .ok (.getfield 99, 3) := by decide +kernel
theorem dX5_largestIsland_37 : decode cX5_largestIsland 37 = .ok (.if_icmp .ge 76, 3) := by decide +kernel
theorem dX5_largestIsland_40 : decode cX5_largestIsland 40 = .ok (.aload_n 0, 1) := by decide +kernel
theorem dX5_largestIsland_41 : decode cX5_largestIsland 41 = .ok (.getfield 19, 3) := by decide +kernel
theorem dX5_largestIsland_44 : decode cX5_largestIsland 44 = .ok (.iload_n 3, 1) := by decide +kernel
theorem dX5_largestIsland_45 : decode cX5_largestIsland 45 = .ok (.iload 4, 2) := by decide +kernel
theorem dX5_largestIsland_47 : decode cX5_largestIsland 47 = .ok (.invokevirtual 77, 3) := by decide +kernel
theorem dX5_largestIsland_50 : decode cX5_largestIsland 50 = .ok (.ifCond .eq 57, 3) := by decide +kernel
theorem dX5_largestIsland_53 : decode cX5_largestIsland 53 = .ok (.aload_n 0, 1) := by decide +kernel
theorem dX5_largestIsland_54 : decode cX5_largestIsland 54 = .ok (.getfield 43, 3) := by decide +kernel
theorem dX5_largestIsland_57 : decode cX5_largestIsland 57 = .ok (.iload_n 3, 1) := by decide +kernel
theorem dX5_largestIsland_58 : decode cX5_largestIsland 58 = .ok (.iload 4, 2) := by decide +kernel
theorem dX5_largestIsland_60 : decode cX5_largestIsland 60 = .ok (.invokevirtual 102, 3) := by decide +kernel
theorem dX5_largestIsland_63 : decode cX5_largestIsland 63 = .ok (.ifCond .ne 44, 3) := by decide +kernel
theorem dX5_largestIsland_66 : decode cX5_largestIsland 66 = .ok (.aload_n 0, 1) := by decide +kernel
theorem dX5_largestIsland_67 : decode cX5_largestIsland 67 = .ok (.getfield 43, 3) := by decide +kernel
theorem dX5_largestIsland_70 : decode cX5_largestIsland 70 = .ok (.aload_n 0, 1) := by decide +kernel
theorem dX5_largestIsland_71 : decode cX5_largestIsland 71 = .ok (.getfield 19, 3) := by decide +kernel
theorem dX5_largestIsland_74 : decode cX5_largestIsland 74 = .ok (.iload_n 3, 1) := by decide +kernel
theorem dX5_largestIsland_75 : decode cX5_largestIsland 75 = .ok (.iload 4, 2) := by decide +kernel
theorem dX5_largestIsland_77 : decode cX5_largestIsland 77 = .ok (.iconst 1, 1) := by decide +kernel
theorem dX5_largestIsland_78 : decode cX5_largestIsland 78 = .ok (.invokevirtual 91, 3) := by decide +kernel
theorem dX5_largestIsland_81 : decode cX5_largestIsland 81 = .ok (.aload_n 0, 1) := by decide +kernel
theorem dX5_largestIsland_82 : decode cX5_largestIsland 82 = .ok (.getfield 43, 3) := by decide +kernel
theorem dX5_largestIsland_85 : decode cX5_largestIsland 85 = .ok (.getfield 105, 3) := by decide +kernel
theorem dX5_largestIsland_88 : decode cX5_largestIsland 88 = .ok (.iload_n 1, 1) := by decide +kernel
theorem dX5_largestIsland_89 : decode cX5_largestIsland 89 = .ok (.if_icmp .le 18, 3) := by decide +kernel
theorem dX5_largestIsland_92 : decode cX5_largestIsland 92 = .ok (.aload_n 0, 1) := by decide +kernel
theorem dX5_largestIsland_93 : decode cX5_largestIsland 93 = .ok (.getfield 43, 3) := by decide +kernel
theorem dX5_largestIsland_96 : decode cX5_largestIsland 96 = .ok (.getfield 105, 3) := by decide +kernel
theorem dX5_largestIsland_99 : decode cX5_largestIsland 99 = .ok (.istore_n 1, 1) := by decide +kernel
theorem dX5_largestIsland_100 : decode cX5_largestIsland 100 = .ok (.iload_n 3, 1) := by decide +kernel
theorem dX5_largestIsland_101 : decode cX5_largestIsland 101 = .ok (.iload 4, 2) := by decide +kernel
theorem dX5_largestIsland_103 : decode cX5_largestIsland 103 = .ok (.invokestatic 145, 3) := by decide +kernel
theorem dX5_largestIsland_106 : decode cX5_largestIsland 106 = .ok (.istore_n 2, 1) := by decide +kernel
theorem dX5_largestIsland_107 : decode cX5_largestIsland 107 = .ok (.iinc 4 1, 3) := by decide +kernel
theorem dX5_largestIsland_110 : decode cX5_largestIsland 110 = .ok (.goto (-82), 3) := by decide +kernel
theorem dX5_largestIsland_113 : decode cX5_largestIsland 113 = .ok (.iinc 3 1, 3) := by decide +kernel
theorem dX5_largestIsland_116 : decode cX5_largestIsland 116 = .ok (.goto (-102), 3) := by decide +kernel
theorem dX5_largestIsland_119 : decode cX5_largestIsland 119 = .ok (.iload_n 2, 1) := by decide +kernel
theorem dX5_largestIsland_120 : decode cX5_largestIsland 120 = .ok (.ireturn, 1) := by decide +kernel
theorem dX5_way_0 : decode cX5_way 0 = .ok (.aload_n 0, 1) := by decide +kernel
theorem dX5_way_1 : decode cX5_way 1 = .ok (.getfield 19, 3) := by decide +kernel
theorem dX5_way_4 : decode cX5_way 4 = .ok (.iload_n 1, 1) := by decide +kernel
theorem dX5_way_5 : decode cX5_way 5 = .ok (.iload_n 2, 1) := by decide +kernel
theorem dX5_way_6 : decode cX5_way 6 = .ok (.invokevirtual 73, 3) := by decide +kernel
theorem dX5_way_9 : decode cX5_way 9 = .ok (.ifCond .eq 16, 3) := by decide +kernel
theorem dX5_way_12 : decode cX5_way 12 = .ok (.aload_n 0, 1) := by decide +kernel
theorem dX5_way_13 : decode cX5_way 13 = .ok (.getfield 19, 3) := by decide +kernel
theorem dX5_way_16 : decode cX5_way 16 = .ok (.iload_n 3, 1) := by decide +kernel
theorem dX5_way_17 : decode cX5_way 17 = .ok (.iload 4, 2) := by decide +kernel
theorem dX5_way_19 : decode cX5_way 19 = .ok (.invokevirtual 73, 3) := by decide +kernel
theorem dX5_way_22 : decode cX5_way 22 = .ok (.ifCond .ne 5, 3) := by decide +kernel
theorem dX5_way_25 : decode cX5_way 25 = .ok (.iconst (-1), 1) := by decide +kernel
theorem dX5_way_26 : decode cX5_way 26 = .ok (.ireturn, 1) := by decide +kernel
theorem dX5_way_27 : decode cX5_way 27 = .ok (.aload_n 0, 1) := by decide +kernel
theorem dX5_way_28 : decode cX5_way 28 = .ok (.getfield 43, 3) := by decide +kernel
theorem dX5_way_31 : decode cX5_way 31 = .ok (.invokevirtual 88, 3) := by decide +kernel
theorem dX5_way_34 : decode cX5_way 34 = .ok (.aload_n 0, 1) := by decide +kernel
theorem dX5_way_35 : decode cX5_way 35 = .ok (.getfield 43, 3) := by decide +kernel
theorem dX5_way_38 : decode cX5_way 38 = .ok (.aload_n 0, 1) := by decide +kernel
theorem dX5_way_39 : decode cX5_way 39 = .ok (.getfield 19, 3) := by decide +kernel
theorem dX5_way_42 : decode cX5_way 42 = .ok (.iload_n 1, 1) := by decide +kernel
theorem dX5_way_43 : decode cX5_way 43 = .ok (.iload_n 2, 1) := by decide +kernel
theorem dX5_way_44 : decode cX5_way 44 = .ok (.iconst 2, 1) := by decide +kernel
theorem dX5_way_45 : decode cX5_way 45 = .ok (.invokevirtual 91, 3) := by decide +kernel
theorem dX5_way_48 : decode cX5_way 48 = .ok (.aload_n 0, 1) := by decide +kernel
theorem dX5_way_49 : decode cX5_way 49 = .ok (.getfield 43, 3) := by decide +kernel
theorem dX5_way_52 : decode cX5_way 52 = .ok (.iload_n 3, 1) := by decide +kernel
theorem dX5_way_53 : decode cX5_way 53 = .ok (.iload 4, 2) := by decide +kernel
theorem dX5_way_55 : decode cX5_way 55 = .ok (.invokevirtual 102, 3) := by decide +kernel
theorem dX5_way_58 : decode cX5_way 58 = .ok (.ifCond .eq 16, 3) := by decide +kernel
theorem dX5_way_61 : decode cX5_way 61 = .ok (.aload_n 0, 1) := by decide +kernel
theorem dX5_way_62 : decode cX5_way 62 = .ok (.getfield 43, 3) := by decide +kernel
theorem dX5_way_65 : decode cX5_way 65 = .ok (.iload_n 3, 1) := by decide +kernel
theorem dX5_way_66 : decode cX5_way 66 = .ok (.iload 4, 2) := by decide +kernel
theorem dX5_way_68 : decode cX5_way 68 = .ok (.invokevirtual 175, 3) := by decide +kernel
theorem dX5_way_71 : decode cX5_way 71 = .ok (.goto 5, 3) := by decide +kernel
theorem dX5_way_74 : decode cX5_way 74 = .ok (.bipush (-6), 2) := by decide +kernel
theorem dX5_way_76 : decode cX5_way 76 = .ok (.ireturn, 1) := by decide +kernel
theorem dX5_coastIfChanged_0 : decode cX5_coastIfChanged 0 = .ok (.aload_n 0, 1) := by decide +kernel
theorem dX5_coastIfChanged_1 : decode cX5_coastIfChanged 1 = .ok (.getfield 19, 3) := by decide +kernel
theorem dX5_coastIfChanged_4 : decode cX5_coastIfChanged 4 = .ok (.iload_n 1, 1) := by decide +kernel
theorem dX5_coastIfChanged_5 : decode cX5_coastIfChanged 5 = .ok (.iload_n 2, 1) := by decide +kernel
theorem dX5_coastIfChanged_6 : decode cX5_coastIfChanged 6 = .ok (.invokevirtual 73, 3) := by decide +kernel
theorem dX5_coastIfChanged_9 : decode cX5_coastIfChanged 9 = .ok (.ifCond .ne 5, 3) := by decide +kernel
theorem dX5_coastIfChanged_12 : decode cX5_coastIfChanged 12 = .ok (.iconst (-1), 1) := by decide +kernel
theorem dX5_coastIfChanged_13 : decode cX5_coastIfChanged 13 = .ok (.ireturn, 1) := by decide +kernel
theorem dX5_coastIfChanged_14 : decode cX5_coastIfChanged 14 = .ok (.iconst 0, 1) := by decide +kernel
theorem dX5_coastIfChanged_15 : decode cX5_coastIfChanged 15 = .ok (.istore_n 3, 1) := by decide +kernel
theorem dX5_coastIfChanged_16 : decode cX5_coastIfChanged 16 = .ok (.iconst 0, 1) := by decide +kernel
theorem dX5_coastIfChanged_17 : decode cX5_coastIfChanged 17 = .ok (.istore 4, 2) := by decide +kernel
theorem dX5_coastIfChanged_19 : decode cX5_coastIfChanged 19 = .ok (.iload 4, 2) := by decide +kernel
theorem dX5_coastIfChanged_21 : decode cX5_coastIfChanged 21 = .ok (.bipush 8, 2) := by decide +kernel
theorem dX5_coastIfChanged_23 : decode cX5_coastIfChanged 23 = .ok (.if_icmp .ge 64, 3) := by decide +kernel
theorem dX5_coastIfChanged_26 : decode cX5_coastIfChanged 26 = .ok (.iload_n 1, 1) := by decide +kernel
theorem dX5_coastIfChanged_27 : decode cX5_coastIfChanged 27 = .ok (.iload 4, 2) := by decide +kernel
theorem dX5_coastIfChanged_29 : decode cX5_coastIfChanged 29 = .ok (.invokestatic 178, 3) := by decide +kernel
theorem dX5_coastIfChanged_32 : decode cX5_coastIfChanged 32 = .ok (.iadd, 1) := by decide +kernel
theorem dX5_coastIfChanged_33 : decode cX5_coastIfChanged 33 = .ok (.istore 5, 2) := by decide +kernel
theorem dX5_coastIfChanged_35 : decode cX5_coastIfChanged 35 = .ok (.iload_n 2, 1) := by decide +kernel
theorem dX5_coastIfChanged_36 : decode cX5_coastIfChanged 36 = .ok (.iload 4, 2) := by decide +kernel
theorem dX5_coastIfChanged_38 : decode cX5_coastIfChanged 38 = .ok (.invokestatic 181, 3) := by decide +kernel
theorem dX5_coastIfChanged_41 : decode cX5_coastIfChanged 41 = .ok (.iadd, 1) := by decide +kernel
theorem dX5_coastIfChanged_42 : decode cX5_coastIfChanged 42 = .ok (.istore 6, 2) := by decide +kernel
theorem dX5_coastIfChanged_44 : decode cX5_coastIfChanged 44 = .ok (.aload_n 0, 1) := by decide +kernel
theorem dX5_coastIfChanged_45 : decode cX5_coastIfChanged 45 = .ok (.getfield 19, 3) := by decide +kernel
theorem dX5_coastIfChanged_48 : decode cX5_coastIfChanged 48 = .ok (.iload 5, 2) := by decide +kernel
theorem dX5_coastIfChanged_50 : decode cX5_coastIfChanged 50 = .ok (.iload 6, 2) := by decide +kernel
theorem dX5_coastIfChanged_52 : decode cX5_coastIfChanged 52 = .ok (.invokevirtual 77, 3) := by decide +kernel
theorem dX5_coastIfChanged_55 : decode cX5_coastIfChanged 55 = .ok (.ifCond .ne 9, 3) := by decide +kernel
theorem dX5_coastIfChanged_58 : decode cX5_coastIfChanged 58 = .ok (.iinc 3 1, 3) := by decide +kernel
theorem dX5_coastIfChanged_61 : decode cX5_coastIfChanged 61 = .ok (.goto 20, 3) := by decide +kernel
theorem dX5_coastIfChanged_64 : decode cX5_coastIfChanged 64 = .ok (.aload_n 0, 1) := by decide +kernel
theorem dX5_coastIfChanged_65 : decode cX5_coastIfChanged 65 = .ok (.getfield 19, 3) := by decide +kernel
theorem dX5_coastIfChanged_68 : decode cX5_coastIfChanged 68 = .ok (.iload 5, 2) := by decide +kernel
theorem dX5_coastIfChanged_70 : decode cX5_coastIfChanged 70 = .ok (.iload 6, 2) := by decide +kernel
theorem dX5_coastIfChanged_72 : decode cX5_coastIfChanged 72 = .ok (.invokevirtual 73, 3) := by decide +kernel
theorem dX5_coastIfChanged_75 : decode cX5_coastIfChanged 75 = .ok (.ifCond .eq 6, 3) := by decide +kernel
theorem dX5_coastIfChanged_78 : decode cX5_coastIfChanged 78 = .ok (.iinc 3 (-1), 3) := by decide +kernel
theorem dX5_coastIfChanged_81 : decode cX5_coastIfChanged 81 = .ok (.iinc 4 2, 3) := by decide +kernel
theorem dX5_coastIfChanged_84 : decode cX5_coastIfChanged 84 = .ok (.goto (-65), 3) := by decide +kernel
theorem dX5_coastIfChanged_87 : decode cX5_coastIfChanged 87 = .ok (.bipush 100, 2) := by decide +kernel
theorem dX5_coastIfChanged_89 : decode cX5_coastIfChanged 89 = .ok (.aload_n 0, 1) := by decide +kernel
theorem dX5_coastIfChanged_90 : decode cX5_coastIfChanged 90 = .ok (.getfield 19, 3) := by decide +kernel
theorem dX5_coastIfChanged_93 : decode cX5_coastIfChanged 93 = .ok (.iload_n 1, 1) := by decide +kernel
theorem dX5_coastIfChanged_94 : decode cX5_coastIfChanged 94 = .ok (.iload_n 2, 1) := by decide +kernel
theorem dX5_coastIfChanged_95 : decode cX5_coastIfChanged 95 = .ok (.invokevirtual 77, 3) := by decide +kernel
theorem dX5_coastIfChanged_98 : decode cX5_coastIfChanged 98 = .ok (.ifCond .eq 8, 3) := by decide +kernel
theorem dX5_coastIfChanged_101 : decode cX5_coastIfChanged 101 = .ok (.iload_n 3, 1) := by decide +kernel
theorem dX5_coastIfChanged_102 : decode cX5_coastIfChanged 102 = .ok (.ineg, 1) := by decide +kernel
theorem dX5_coastIfChanged_103 : decode cX5_coastIfChanged 103 = .ok (.goto 4, 3) := by decide +kernel
theorem dX5_coastIfChanged_106 : decode cX5_coastIfChanged 106 = .ok (.iload_n 3, 1) := by decide +kernel
theorem dX5_coastIfChanged_107 : decode cX5_coastIfChanged 107 = .ok (.iadd, 1) := by decide +kernel
theorem dX5_coastIfChanged_108 : decode cX5_coastIfChanged 108 = .ok (.ireturn, 1) := by decide +kernel
theorem dX5_needs_0 : decode cX5_needs 0 = .ok (.aload_n 0, 1) := by decide +kernel
theorem dX5_needs_1 : decode cX5_needs 1 = .ok (.getfield 19, 3) := by decide +kernel
theorem dX5_needs_4 : decode cX5_needs 4 = .ok (.iload_n 1, 1) := by decide +kernel
theorem dX5_needs_5 : decode cX5_needs 5 = .ok (.iload_n 2, 1) := by decide +kernel
theorem dX5_needs_6 : decode cX5_needs 6 = .ok (.invokevirtual 73, 3) := by decide +kernel
theorem dX5_needs_9 : decode cX5_needs 9 = .ok (.ifCond .eq 10, 3) := by decide +kernel
theorem dX5_needs_12 : decode cX5_needs 12 = .ok (.iload_n 3, 1) := by decide +kernel
theorem dX5_needs_13 : decode cX5_needs 13 = .ok (.invokestatic 135, 3) := by decide +kernel
theorem dX5_needs_16 : decode cX5_needs 16 = .ok (.ifCond .ne 5, 3) := by decide +kernel
theorem dX5_needs_19 : decode cX5_needs 19 = .ok (.iconst (-1), 1) := by decide +kernel
theorem dX5_needs_20 : decode cX5_needs 20 = .ok (.ireturn, 1) := by decide +kernel
theorem dX5_needs_21 : decode cX5_needs 21 = .ok (.aload_n 0, 1) := by decide +kernel
theorem dX5_needs_22 : decode cX5_needs 22 = .ok (.getfield 12, 3) := by decide +kernel
theorem dX5_needs_25 : decode cX5_needs 25 = .ok (.iload_n 3, 1) := by decide +kernel
theorem dX5_needs_26 : decode cX5_needs 26 = .ok (.invokevirtual 148, 3) := by decide +kernel
theorem dX5_needs_29 : decode cX5_needs 29 = .ok (.istore 4, 2) := by decide +kernel
theorem dX5_needs_31 : decode cX5_needs 31 = .ok (.iload 4, 2) := by decide +kernel
theorem dX5_needs_33 : decode cX5_needs 33 = .ok (.aload_n 0, 1) := by decide +kernel
theorem dX5_needs_34 : decode cX5_needs 34 = .ok (.getfield 19, 3) := by decide +kernel
theorem dX5_needs_37 : decode cX5_needs 37 = .ok (.iload_n 1, 1) := by decide +kernel
theorem dX5_needs_38 : decode cX5_needs 38 = .ok (.iload_n 2, 1) := by decide +kernel
theorem dX5_needs_39 : decode cX5_needs 39 = .ok (.invokevirtual 111, 3) := by decide +kernel
theorem dX5_needs_42 : decode cX5_needs 42 = .ok (.ixor, 1) := by decide +kernel
theorem dX5_needs_43 : decode cX5_needs 43 = .ok (.iload 4, 2) := by decide +kernel
theorem dX5_needs_45 : decode cX5_needs 45 = .ok (.invokestatic 184, 3) := by decide +kernel
theorem dX5_needs_48 : decode cX5_needs 48 = .ok (.iand, 1) := by decide +kernel
theorem dX5_needs_49 : decode cX5_needs 49 = .ok (.istore 5, 2) := by decide +kernel
theorem dX5_needs_51 : decode cX5_needs 51 = .ok (.iload 5, 2) := by decide +kernel
theorem dX5_needs_53 : decode cX5_needs 53 = .ok (.aload_n 0, 1) := by decide +kernel
theorem dX5_needs_54 : decode cX5_needs 54 = .ok (.getfield 19, 3) := by decide +kernel
theorem dX5_needs_57 : decode cX5_needs 57 = .ok (.iload_n 1, 1) := by decide +kernel
theorem dX5_needs_58 : decode cX5_needs 58 = .ok (.iload_n 2, 1) := by decide +kernel
theorem dX5_needs_59 : decode cX5_needs 59 = .ok (.invokevirtual 187, 3) := by decide +kernel
theorem dX5_needs_62 : decode cX5_needs 62 = .ok (.iand, 1) := by decide +kernel
theorem dX5_needs_63 : decode cX5_needs 63 = .ok (.ifCond .eq 6, 3) := by decide +kernel
theorem dX5_needs_66 : decode cX5_needs 66 = .ok (.bipush (-6), 2) := by decide +kernel
theorem dX5_needs_68 : decode cX5_needs 68 = .ok (.ireturn, 1) := by decide +kernel
theorem dX5_needs_69 : decode cX5_needs 69 = .ok (.iload 5, 2) := by decide +kernel
theorem dX5_needs_71 : decode cX5_needs 71 = .ok (.invokestatic 114, 3) := by decide +kernel
theorem dX5_needs_74 : decode cX5_needs 74 = .ok (.ireturn, 1) := by decide +kernel
theorem dX5_isLineCount_0 : decode cX5_isLineCount 0 = .ok (.iload_n 0, 1) := by decide +kernel
theorem dX5_isLineCount_1 : decode cX5_isLineCount 1 = .ok (.iconst 1, 1) := by decide +kernel
theorem dX5_isLineCount_2 : decode cX5_isLineCount 2 = .ok (.if_icmp .lt 13, 3) := by decide +kernel
theorem dX5_isLineCount_5 : decode cX5_isLineCount 5 = .ok (.iload_n 0, 1) := by decide +kernel
theorem dX5_isLineCount_6 : decode cX5_isLineCount 6 = .ok (.bipush 12, 2) := by decide +kernel
theorem dX5_isLineCount_8 : decode cX5_isLineCount 8 = .ok (.if_icmp .gt 7, 3) := by decide +kernel
theorem dX5_isLineCount_11 : decode cX5_isLineCount 11 = .ok (.iconst 1, 1) := by decide +kernel
theorem dX5_isLineCount_12 : decode cX5_isLineCount 12 = .ok (.goto 4, 3) := by decide +kernel
theorem dX5_isLineCount_15 : decode cX5_isLineCount 15 = .ok (.iconst 0, 1) := by decide +kernel
theorem dX5_isLineCount_16 : decode cX5_isLineCount 16 = .ok (.ireturn, 1) := by decide +kernel
theorem dX5_isLineOf_0 : decode cX5_isLineOf 0 = .ok (.iload_n 0, 1) := by decide +kernel
theorem dX5_isLineOf_1 : decode cX5_isLineOf 1 = .ok (.ifCond .lt 18, 3) := by decide +kernel
theorem dX5_isLineOf_4 : decode cX5_isLineOf 4 = .ok (.iload_n 0, 1) := by decide +kernel
theorem dX5_isLineOf_5 : decode cX5_isLineOf 5 = .ok (.iload_n 1, 1) := by decide +kernel
theorem dX5_isLineOf_6 : decode cX5_isLineOf 6 = .ok (.if_icmp .ge 13, 3) := by decide +kernel
theorem dX5_isLineOf_9 : decode cX5_isLineOf 9 = .ok (.iload_n 0, 1) := by decide +kernel
theorem dX5_isLineOf_10 : decode cX5_isLineOf 10 = .ok (.bipush 12, 2) := by decide +kernel
theorem dX5_isLineOf_12 : decode cX5_isLineOf 12 = .ok (.if_icmp .ge 7, 3) := by decide +kernel
theorem dX5_isLineOf_15 : decode cX5_isLineOf 15 = .ok (.iconst 1, 1) := by decide +kernel
theorem dX5_isLineOf_16 : decode cX5_isLineOf 16 = .ok (.goto 4, 3) := by decide +kernel
theorem dX5_isLineOf_19 : decode cX5_isLineOf 19 = .ok (.iconst 0, 1) := by decide +kernel
theorem dX5_isLineOf_20 : decode cX5_isLineOf 20 = .ok (.ireturn, 1) := by decide +kernel
theorem dX5_isShape_0 : decode cX5_isShape 0 = .ok (.iload_n 0, 1) := by decide +kernel
theorem dX5_isShape_1 : decode cX5_isShape 1 = .ok (.ifCond .lt 13, 3) := by decide +kernel
theorem dX5_isShape_4 : decode cX5_isShape 4 = .ok (.iload_n 0, 1) := by decide +kernel
theorem dX5_isShape_5 : decode cX5_isShape 5 = .ok (.bipush 47, 2) := by decide +kernel
theorem dX5_isShape_7 : decode cX5_isShape 7 = .ok (.if_icmp .ge 7, 3) := by decide +kernel
theorem dX5_isShape_10 : decode cX5_isShape 10 = .ok (.iconst 1, 1) := by decide +kernel
theorem dX5_isShape_11 : decode cX5_isShape 11 = .ok (.goto 4, 3) := by decide +kernel
theorem dX5_isShape_14 : decode cX5_isShape 14 = .ok (.iconst 0, 1) := by decide +kernel
theorem dX5_isShape_15 : decode cX5_isShape 15 = .ok (.ireturn, 1) := by decide +kernel
theorem dX5_position_0 : decode cX5_position 0 = .ok (.bipush 100, 2) := by decide +kernel
theorem dX5_position_2 : decode cX5_position 2 = .ok (.iload_n 0, 1) := by decide +kernel
theorem dX5_position_3 : decode cX5_position 3 = .ok (.imul, 1) := by decide +kernel
theorem dX5_position_4 : decode cX5_position 4 = .ok (.iload_n 1, 1) := by decide +kernel
theorem dX5_position_5 : decode cX5_position 5 = .ok (.iadd, 1) := by decide +kernel
theorem dX5_position_6 : decode cX5_position 6 = .ok (.ireturn, 1) := by decide +kernel
theorem dX5_rowStep_0 : decode cX5_rowStep 0 = .ok (.getstatic 209, 3) := by decide +kernel
theorem dX5_rowStep_3 : decode cX5_rowStep 3 = .ok (.iload_n 0, 1) := by decide +kernel
theorem dX5_rowStep_4 : decode cX5_rowStep 4 = .ok (.bipush 7, 2) := by decide +kernel
theorem dX5_rowStep_6 : decode cX5_rowStep 6 = .ok (.iand, 1) := by decide +kernel
theorem dX5_rowStep_7 : decode cX5_rowStep 7 = .ok (.iaload, 1) := by decide +kernel
theorem dX5_rowStep_8 : decode cX5_rowStep 8 = .ok (.ireturn, 1) := by decide +kernel
theorem dX5_columnStep_0 : decode cX5_columnStep 0 = .ok (.getstatic 213, 3) := by decide +kernel
theorem dX5_columnStep_3 : decode cX5_columnStep 3 = .ok (.iload_n 0, 1) := by decide +kernel
theorem dX5_columnStep_4 : decode cX5_columnStep 4 = .ok (.bipush 7, 2) := by decide +kernel
theorem dX5_columnStep_6 : decode cX5_columnStep 6 = .ok (.iand, 1) := by decide +kernel
theorem dX5_columnStep_7 : decode cX5_columnStep 7 = .ok (.iaload, 1) := by decide +kernel
theorem dX5_columnStep_8 : decode cX5_columnStep 8 = .ok (.ireturn, 1) := by decide +kernel
theorem dX5_rotated_0 : decode cX5_rotated 0 = .ok (.iload_n 0, 1) := by decide +kernel
theorem dX5_rotated_1 : decode cX5_rotated 1 = .ok (.iload_n 1, 1) := by decide +kernel
theorem dX5_rotated_2 : decode cX5_rotated 2 = .ok (.ishl, 1) := by decide +kernel
theorem dX5_rotated_3 : decode cX5_rotated 3 = .ok (.iload_n 0, 1) := by decide +kernel
theorem dX5_rotated_4 : decode cX5_rotated 4 = .ok (.bipush 8, 2) := by decide +kernel
theorem dX5_rotated_6 : decode cX5_rotated 6 = .ok (.iload_n 1, 1) := by decide +kernel
theorem dX5_rotated_7 : decode cX5_rotated 7 = .ok (.isub, 1) := by decide +kernel
theorem dX5_rotated_8 : decode cX5_rotated 8 = .ok (.ishr, 1) := by decide +kernel
theorem dX5_rotated_9 : decode cX5_rotated 9 = .ok (.ior, 1) := by decide +kernel
theorem dX5_rotated_10 : decode cX5_rotated 10 = .ok (.sipush 255, 3) := by decide +kernel
theorem dX5_rotated_13 : decode cX5_rotated 13 = .ok (.iand, 1) := by decide +kernel
theorem dX5_rotated_14 : decode cX5_rotated 14 = .ok (.ireturn, 1) := by decide +kernel
theorem dX5_bitsThatCount_0 : decode cX5_bitsThatCount 0 = .ok (.iload_n 0, 1) := by decide +kernel
theorem dX5_bitsThatCount_1 : decode cX5_bitsThatCount 1 = .ok (.bipush 85, 2) := by decide +kernel
theorem dX5_bitsThatCount_3 : decode cX5_bitsThatCount 3 = .ok (.iand, 1) := by decide +kernel
theorem dX5_bitsThatCount_4 : decode cX5_bitsThatCount 4 = .ok (.istore_n 1, 1) := by decide +kernel
theorem dX5_bitsThatCount_5 : decode cX5_bitsThatCount 5 = .ok (.bipush 85, 2) := by decide +kernel
theorem dX5_bitsThatCount_7 : decode cX5_bitsThatCount 7 = .ok (.iload_n 1, 1) := by decide +kernel
theorem dX5_bitsThatCount_8 : decode cX5_bitsThatCount 8 = .ok (.iconst 1, 1) := by decide +kernel
theorem dX5_bitsThatCount_9 : decode cX5_bitsThatCount 9 = .ok (.invokestatic 216, 3) := by decide +kernel
theorem dX5_bitsThatCount_12 : decode cX5_bitsThatCount 12 = .ok (.iload_n 1, 1) := by decide +kernel
theorem dX5_bitsThatCount_13 : decode cX5_bitsThatCount 13 = .ok (.bipush 7, 2) := by decide +kernel
theorem dX5_bitsThatCount_15 : decode cX5_bitsThatCount 15 = .ok (.invokestatic 216, 3) := by decide +kernel
theorem dX5_bitsThatCount_18 : decode cX5_bitsThatCount 18 = .ok (.iand, 1) := by decide +kernel
theorem dX5_bitsThatCount_19 : decode cX5_bitsThatCount 19 = .ok (.ior, 1) := by decide +kernel
theorem dX5_bitsThatCount_20 : decode cX5_bitsThatCount 20 = .ok (.ireturn, 1) := by decide +kernel
theorem dX5_regularPart_0 : decode cX5_regularPart 0 = .ok (.iload_n 0, 1) := by decide +kernel
theorem dX5_regularPart_1 : decode cX5_regularPart 1 = .ok (.iload_n 0, 1) := by decide +kernel
theorem dX5_regularPart_2 : decode cX5_regularPart 2 = .ok (.invokestatic 184, 3) := by decide +kernel
theorem dX5_regularPart_5 : decode cX5_regularPart 5 = .ok (.iand, 1) := by decide +kernel
theorem dX5_regularPart_6 : decode cX5_regularPart 6 = .ok (.ireturn, 1) := by decide +kernel
theorem dX5_rightMaskAt_0 : decode cX5_rightMaskAt 0 = .ok (.aload_n 0, 1) := by decide +kernel
theorem dX5_rightMaskAt_1 : decode cX5_rightMaskAt 1 = .ok (.getfield 19, 3) := by decide +kernel
theorem dX5_rightMaskAt_4 : decode cX5_rightMaskAt 4 = .ok (.iload_n 1, 1) := by decide +kernel
theorem dX5_rightMaskAt_5 : decode cX5_rightMaskAt 5 = .ok (.iload_n 2, 1) := by decide +kernel
theorem dX5_rightMaskAt_6 : decode cX5_rightMaskAt 6 = .ok (.invokevirtual 111, 3) := by decide +kernel
theorem dX5_rightMaskAt_9 : decode cX5_rightMaskAt 9 = .ok (.invokestatic 220, 3) := by decide +kernel
theorem dX5_rightMaskAt_12 : decode cX5_rightMaskAt 12 = .ok (.ireturn, 1) := by decide +kernel
theorem dX5_rightShapeAt_0 : decode cX5_rightShapeAt 0 = .ok (.aload_n 0, 1) := by decide +kernel
theorem dX5_rightShapeAt_1 : decode cX5_rightShapeAt 1 = .ok (.getfield 12, 3) := by decide +kernel
theorem dX5_rightShapeAt_4 : decode cX5_rightShapeAt 4 = .ok (.aload_n 0, 1) := by decide +kernel
theorem dX5_rightShapeAt_5 : decode cX5_rightShapeAt 5 = .ok (.iload_n 1, 1) := by decide +kernel
theorem dX5_rightShapeAt_6 : decode cX5_rightShapeAt 6 = .ok (.iload_n 2, 1) := by decide +kernel
theorem dX5_rightShapeAt_7 : decode cX5_rightShapeAt 7 = .ok (.invokevirtual 223, 3) := by decide +kernel
theorem dX5_rightShapeAt_10 : decode cX5_rightShapeAt 10 = .ok (.invokevirtual 151, 3) := by decide +kernel
theorem dX5_rightShapeAt_13 : decode cX5_rightShapeAt 13 = .ok (.ireturn, 1) := by decide +kernel
theorem dX5_shapeAt_0 : decode cX5_shapeAt 0 = .ok (.aload_n 0, 1) := by decide +kernel
theorem dX5_shapeAt_1 : decode cX5_shapeAt 1 = .ok (.getfield 19, 3) := by decide +kernel
theorem dX5_shapeAt_4 : decode cX5_shapeAt 4 = .ok (.iload_n 1, 1) := by decide +kernel
theorem dX5_shapeAt_5 : decode cX5_shapeAt 5 = .ok (.iload_n 2, 1) := by decide +kernel
theorem dX5_shapeAt_6 : decode cX5_shapeAt 6 = .ok (.invokevirtual 77, 3) := by decide +kernel
theorem dX5_shapeAt_9 : decode cX5_shapeAt 9 = .ok (.ifCond .ne 6, 3) := by decide +kernel
theorem dX5_shapeAt_12 : decode cX5_shapeAt 12 = .ok (.bipush (-6), 2) := by decide +kernel
theorem dX5_shapeAt_14 : decode cX5_shapeAt 14 = .ok (.ireturn, 1) := by decide +kernel
theorem dX5_shapeAt_15 : decode cX5_shapeAt 15 = .ok (.aload_n 0, 1) := by decide +kernel
theorem dX5_shapeAt_16 : decode cX5_shapeAt 16 = .ok (.getfield 19, 3) := by decide +kernel
theorem dX5_shapeAt_19 : decode cX5_shapeAt 19 = .ok (.iload_n 1, 1) := by decide +kernel
theorem dX5_shapeAt_20 : decode cX5_shapeAt 20 = .ok (.iload_n 2, 1) := by decide +kernel
theorem dX5_shapeAt_21 : decode cX5_shapeAt 21 = .ok (.invokevirtual 129, 3) := by decide +kernel
theorem dX5_shapeAt_24 : decode cX5_shapeAt 24 = .ok (.ifCond .eq 15, 3) := by decide +kernel
theorem dX5_shapeAt_27 : decode cX5_shapeAt 27 = .ok (.aload_n 0, 1) := by decide +kernel
theorem dX5_shapeAt_28 : decode cX5_shapeAt 28 = .ok (.getfield 19, 3) := by decide +kernel
theorem dX5_shapeAt_31 : decode cX5_shapeAt 31 = .ok (.iload_n 1, 1) := by decide +kernel
theorem dX5_shapeAt_32 : decode cX5_shapeAt 32 = .ok (.iload_n 2, 1) := by decide +kernel
theorem dX5_shapeAt_33 : decode cX5_shapeAt 33 = .ok (.invokevirtual 142, 3) := by decide +kernel
theorem dX5_shapeAt_36 : decode cX5_shapeAt 36 = .ok (.goto 9, 3) := by decide +kernel
theorem dX5_shapeAt_39 : decode cX5_shapeAt 39 = .ok (.aload_n 0, 1) := by decide +kernel
theorem dX5_shapeAt_40 : decode cX5_shapeAt 40 = .ok (.iload_n 1, 1) := by decide +kernel
theorem dX5_shapeAt_41 : decode cX5_shapeAt 41 = .ok (.iload_n 2, 1) := by decide +kernel
theorem dX5_shapeAt_42 : decode cX5_shapeAt 42 = .ok (.invokevirtual 123, 3) := by decide +kernel
theorem dX5_shapeAt_45 : decode cX5_shapeAt 45 = .ok (.ireturn, 1) := by decide +kernel
theorem dX5_faultsAt_0 : decode cX5_faultsAt 0 = .ok (.aload_n 0, 1) := by decide +kernel
theorem dX5_faultsAt_1 : decode cX5_faultsAt 1 = .ok (.getfield 19, 3) := by decide +kernel
theorem dX5_faultsAt_4 : decode cX5_faultsAt 4 = .ok (.iload_n 1, 1) := by decide +kernel
theorem dX5_faultsAt_5 : decode cX5_faultsAt 5 = .ok (.iload_n 2, 1) := by decide +kernel
theorem dX5_faultsAt_6 : decode cX5_faultsAt 6 = .ok (.invokevirtual 129, 3) := by decide +kernel
theorem dX5_faultsAt_9 : decode cX5_faultsAt 9 = .ok (.ifCond .ne 5, 3) := by decide +kernel
theorem dX5_faultsAt_12 : decode cX5_faultsAt 12 = .ok (.iconst 0, 1) := by decide +kernel
theorem dX5_faultsAt_13 : decode cX5_faultsAt 13 = .ok (.ireturn, 1) := by decide +kernel
theorem dX5_faultsAt_14 : decode cX5_faultsAt 14 = .ok (.aload_n 0, 1) := by decide +kernel
theorem dX5_faultsAt_15 : decode cX5_faultsAt 15 = .ok (.getfield 12, 3) := by decide +kernel
theorem dX5_faultsAt_18 : decode cX5_faultsAt 18 = .ok (.aload_n 0, 1) := by decide +kernel
theorem dX5_faultsAt_19 : decode cX5_faultsAt 19 = .ok (.getfield 19, 3) := by decide +kernel
theorem dX5_faultsAt_22 : decode cX5_faultsAt 22 = .ok (.iload_n 1, 1) := by decide +kernel
theorem dX5_faultsAt_23 : decode cX5_faultsAt 23 = .ok (.iload_n 2, 1) := by decide +kernel
theorem dX5_faultsAt_24 : decode cX5_faultsAt 24 = .ok (.invokevirtual 142, 3) := by decide +kernel
theorem dX5_faultsAt_27 : decode cX5_faultsAt 27 = .ok (.invokevirtual 148, 3) := by decide +kernel
theorem dX5_faultsAt_30 : decode cX5_faultsAt 30 = .ok (.aload_n 0, 1) := by decide +kernel
theorem dX5_faultsAt_31 : decode cX5_faultsAt 31 = .ok (.iload_n 1, 1) := by decide +kernel
theorem dX5_faultsAt_32 : decode cX5_faultsAt 32 = .ok (.iload_n 2, 1) := by decide +kernel
theorem dX5_faultsAt_33 : decode cX5_faultsAt 33 = .ok (.invokevirtual 223, 3) := by decide +kernel
theorem dX5_faultsAt_36 : decode cX5_faultsAt 36 = .ok (.ixor, 1) := by decide +kernel
theorem dX5_faultsAt_37 : decode cX5_faultsAt 37 = .ok (.invokestatic 114, 3) := by decide +kernel
theorem dX5_faultsAt_40 : decode cX5_faultsAt 40 = .ok (.ireturn, 1) := by decide +kernel
theorem dX5_isReshapedBy_0 : decode cX5_isReshapedBy 0 = .ok (.aload_n 0, 1) := by decide +kernel
theorem dX5_isReshapedBy_1 : decode cX5_isReshapedBy 1 = .ok (.getfield 19, 3) := by decide +kernel
theorem dX5_isReshapedBy_4 : decode cX5_isReshapedBy 4 = .ok (.iload_n 1, 1) := by decide +kernel
theorem dX5_isReshapedBy_5 : decode cX5_isReshapedBy 5 = .ok (.iload_n 2, 1) := by decide +kernel
theorem dX5_isReshapedBy_6 : decode cX5_isReshapedBy 6 = .ok (.invokevirtual 77, 3) := by decide +kernel
theorem dX5_isReshapedBy_9 : decode cX5_isReshapedBy 9 = .ok (.ifCond .eq 15, 3) := by decide +kernel
theorem dX5_isReshapedBy_12 : decode cX5_isReshapedBy 12 = .ok (.aload_n 0, 1) := by decide +kernel
theorem dX5_isReshapedBy_13 : decode cX5_isReshapedBy 13 = .ok (.getfield 19, 3) := by decide +kernel
theorem dX5_isReshapedBy_16 : decode cX5_isReshapedBy 16 = .ok (.iload_n 1, 1) := by decide +kernel
theorem dX5_isReshapedBy_17 : decode cX5_isReshapedBy 17 = .ok (.iload_n 2, 1) := by decide +kernel
theorem dX5_isReshapedBy_18 : decode cX5_isReshapedBy 18 = .ok (.invokevirtual 129, 3) := by decide +kernel
theorem dX5_isReshapedBy_21 : decode cX5_isReshapedBy 21 = .ok (.ifCond .eq 5, 3) := by decide +kernel
theorem dX5_isReshapedBy_24 : decode cX5_isReshapedBy 24 = .ok (.iconst 0, 1) := by decide +kernel
theorem dX5_isReshapedBy_25 : decode cX5_isReshapedBy 25 = .ok (.ireturn, 1) := by decide +kernel
theorem dX5_isReshapedBy_26 : decode cX5_isReshapedBy 26 = .ok (.aload_n 0, 1) := by decide +kernel
theorem dX5_isReshapedBy_27 : decode cX5_isReshapedBy 27 = .ok (.getfield 19, 3) := by decide +kernel
theorem dX5_isReshapedBy_30 : decode cX5_isReshapedBy 30 = .ok (.iload_n 1, 1) := by decide +kernel
theorem dX5_isReshapedBy_31 : decode cX5_isReshapedBy 31 = .ok (.iload_n 2, 1) := by decide +kernel
theorem dX5_isReshapedBy_32 : decode cX5_isReshapedBy 32 = .ok (.invokevirtual 111, 3) := by decide +kernel
theorem dX5_isReshapedBy_35 : decode cX5_isReshapedBy 35 = .ok (.istore 4, 2) := by decide +kernel
theorem dX5_isReshapedBy_37 : decode cX5_isReshapedBy 37 = .ok (.iload 4, 2) := by decide +kernel
theorem dX5_isReshapedBy_39 : decode cX5_isReshapedBy 39 = .ok (.invokestatic 220, 3) := by decide +kernel
theorem dX5_isReshapedBy_42 : decode cX5_isReshapedBy 42 = .ok (.iload 4, 2) := by decide +kernel
theorem dX5_isReshapedBy_44 : decode cX5_isReshapedBy 44 = .ok (.iload_n 3, 1) := by decide +kernel
theorem dX5_isReshapedBy_45 : decode cX5_isReshapedBy 45 = .ok (.ixor, 1) := by decide +kernel
theorem dX5_isReshapedBy_46 : decode cX5_isReshapedBy 46 = .ok (.invokestatic 220, 3) := by decide +kernel
theorem dX5_isReshapedBy_49 : decode cX5_isReshapedBy 49 = .ok (.if_icmp .eq 7, 3) := by decide +kernel
theorem dX5_isReshapedBy_52 : decode cX5_isReshapedBy 52 = .ok (.iconst 1, 1) := by decide +kernel
theorem dX5_isReshapedBy_53 : decode cX5_isReshapedBy 53 = .ok (.goto 4, 3) := by decide +kernel
theorem dX5_isReshapedBy_56 : decode cX5_isReshapedBy 56 = .ok (.iconst 0, 1) := by decide +kernel
theorem dX5_isReshapedBy_57 : decode cX5_isReshapedBy 57 = .ok (.ireturn, 1) := by decide +kernel
theorem dX5_reshapedByOutside_0 : decode cX5_reshapedByOutside 0 = .ok (.iconst 0, 1) := by decide +kernel
theorem dX5_reshapedByOutside_1 : decode cX5_reshapedByOutside 1 = .ok (.istore_n 1, 1) := by decide +kernel
theorem dX5_reshapedByOutside_2 : decode cX5_reshapedByOutside 2 = .ok (.iconst 0, 1) := by decide +kernel
theorem dX5_reshapedByOutside_3 : decode cX5_reshapedByOutside 3 = .ok (.istore_n 2, 1) := by decide +kernel
theorem dX5_reshapedByOutside_4 : decode cX5_reshapedByOutside 4 = .ok (.iload_n 2, 1) := by decide +kernel
theorem dX5_reshapedByOutside_5 : decode cX5_reshapedByOutside 5 = .ok (.aload_n 0, 1) := by decide +kernel
theorem dX5_reshapedByOutside_6 : decode cX5_reshapedByOutside 6 = .ok (.getfield 19, 3) := by decide +kernel
theorem dX5_reshapedByOutside_9 : decode cX5_reshapedByOutside 9 = .ok (.getfield 95, 3) := by decide +kernel
theorem dX5_reshapedByOutside_12 : decode cX5_reshapedByOutside 12 = .ok (.if_icmp .ge 49, 3) := by decide +kernel
theorem dX5_reshapedByOutside_15 : decode cX5_reshapedByOutside 15 = .ok (.iconst 0, 1) := by decide +kernel
theorem dX5_reshapedByOutside_16 : decode cX5_reshapedByOutside 16 = .ok (.istore_n 3, 1) := by decide +kernel
theorem dX5_reshapedByOutside_17 : decode cX5_reshapedByOutside 17 = .ok (.iload_n 3, 1) := by decide +kernel
theorem dX5_reshapedByOutside_18 : decode cX5_reshapedByOutside 18 = .ok (.aload_n 0, 1) := by decide +kernel
theorem dX5_reshapedByOutside_19 : decode cX5_reshapedByOutside 19 = .ok (.getfield 19, 3) := by decide +kernel
theorem dX5_reshapedByOutside_22 : decode cX5_reshapedByOutside 22 = .ok (.getfield 99, 3) := by decide +kernel
theorem dX5_reshapedByOutside_25 : decode cX5_reshapedByOutside 25 = .ok (.if_icmp .ge 30, 3) := by decide +kernel
theorem dX5_reshapedByOutside_28 : decode cX5_reshapedByOutside 28 = .ok (.aload_n 0, 1) := by decide +kernel
theorem dX5_reshapedByOutside_29 : decode cX5_reshapedByOutside 29 = .ok (.iload_n 2, 1) := by decide +kernel
theorem dX5_reshapedByOutside_30 : decode cX5_reshapedByOutside 30 = .ok (.iload_n 3, 1) := by decide +kernel
theorem dX5_reshapedByOutside_31 : decode cX5_reshapedByOutside 31 = .ok (.aload_n 0, 1) := by decide +kernel
theorem dX5_reshapedByOutside_32 : decode cX5_reshapedByOutside 32 = .ok (.getfield 19, 3) := by decide +kernel
theorem dX5_reshapedByOutside_35 : decode cX5_reshapedByOutside 35 = .ok (.iload_n 2, 1) := by decide +kernel
theorem dX5_reshapedByOutside_36 : decode cX5_reshapedByOutside 36 = .ok (.iload_n 3, 1) := by decide +kernel
theorem dX5_reshapedByOutside_37 : decode cX5_reshapedByOutside 37 = .ok (.invokevirtual 187, 3) := by decide +kernel
theorem dX5_reshapedByOutside_40 : decode cX5_reshapedByOutside 40 = .ok (.invokevirtual 226, 3) := by decide +kernel
theorem dX5_reshapedByOutside_43 : decode cX5_reshapedByOutside 43 = .ok (.ifCond .eq 6, 3) := by decide +kernel
theorem dX5_reshapedByOutside_46 : decode cX5_reshapedByOutside 46 = .ok (.iinc 1 1, 3) := by decide +kernel
theorem dX5_reshapedByOutside_49 : decode cX5_reshapedByOutside 49 = .ok (.iinc 3 1, 3) := by decide +kernel
theorem dX5_reshapedByOutside_52 : decode cX5_reshapedByOutside 52 = .ok (.goto (-35), 3) := by decide +kernel
theorem dX5_reshapedByOutside_55 : decode cX5_reshapedByOutside 55 = .ok (.iinc 2 1, 3) := by decide +kernel
theorem dX5_reshapedByOutside_58 : decode cX5_reshapedByOutside 58 = .ok (.goto (-54), 3) := by decide +kernel
theorem dX5_reshapedByOutside_61 : decode cX5_reshapedByOutside 61 = .ok (.iload_n 1, 1) := by decide +kernel
theorem dX5_reshapedByOutside_62 : decode cX5_reshapedByOutside 62 = .ok (.ireturn, 1) := by decide +kernel
theorem dX5_reshapedByTile_0 : decode cX5_reshapedByTile 0 = .ok (.iconst 0, 1) := by decide +kernel
theorem dX5_reshapedByTile_1 : decode cX5_reshapedByTile 1 = .ok (.istore_n 3, 1) := by decide +kernel
theorem dX5_reshapedByTile_2 : decode cX5_reshapedByTile 2 = .ok (.iconst 0, 1) := by decide +kernel
theorem dX5_reshapedByTile_3 : decode cX5_reshapedByTile 3 = .ok (.istore 4, 2) := by decide +kernel
theorem dX5_reshapedByTile_5 : decode cX5_reshapedByTile 5 = .ok (.iload 4, 2) := by decide +kernel
theorem dX5_reshapedByTile_7 : decode cX5_reshapedByTile 7 = .ok (.bipush 8, 2) := by decide +kernel
theorem dX5_reshapedByTile_9 : decode cX5_reshapedByTile 9 = .ok (.if_icmp .ge 67, 3) := by decide +kernel
theorem dX5_reshapedByTile_12 : decode cX5_reshapedByTile 12 = .ok (.iload_n 1, 1) := by decide +kernel
theorem dX5_reshapedByTile_13 : decode cX5_reshapedByTile 13 = .ok (.iload 4, 2) := by decide +kernel
theorem dX5_reshapedByTile_15 : decode cX5_reshapedByTile 15 = .ok (.invokestatic 178, 3) := by decide +kernel
theorem dX5_reshapedByTile_18 : decode cX5_reshapedByTile 18 = .ok (.iadd, 1) := by decide +kernel
theorem dX5_reshapedByTile_19 : decode cX5_reshapedByTile 19 = .ok (.istore 5, 2) := by decide +kernel
theorem dX5_reshapedByTile_21 : decode cX5_reshapedByTile 21 = .ok (.iload_n 2, 1) := by decide +kernel
theorem dX5_reshapedByTile_22 : decode cX5_reshapedByTile 22 = .ok (.iload 4, 2) := by decide +kernel
theorem dX5_reshapedByTile_24 : decode cX5_reshapedByTile 24 = .ok (.invokestatic 181, 3) := by decide +kernel
theorem dX5_reshapedByTile_27 : decode cX5_reshapedByTile 27 = .ok (.iadd, 1) := by decide +kernel
theorem dX5_reshapedByTile_28 : decode cX5_reshapedByTile 28 = .ok (.istore 6, 2) := by decide +kernel
theorem dX5_reshapedByTile_30 : decode cX5_reshapedByTile 30 = .ok (.iconst 1, 1) := by decide +kernel
theorem dX5_reshapedByTile_31 : decode cX5_reshapedByTile 31 = .ok (.iload 4, 2) := by decide +kernel
theorem dX5_reshapedByTile_33 : decode cX5_reshapedByTile 33 = .ok (.ishl, 1) := by decide +kernel
theorem dX5_reshapedByTile_34 : decode cX5_reshapedByTile 34 = .ok (.iconst 4, 1) := by decide +kernel
theorem dX5_reshapedByTile_35 : decode cX5_reshapedByTile 35 = .ok (.invokestatic 216, 3) := by decide +kernel
theorem dX5_reshapedByTile_38 : decode cX5_reshapedByTile 38 = .ok (.istore 7, 2) := by decide +kernel
theorem dX5_reshapedByTile_40 : decode cX5_reshapedByTile 40 = .ok (.aload_n 0, 1) := by decide +kernel
theorem dX5_reshapedByTile_41 : decode cX5_reshapedByTile 41 = .ok (.getfield 19, 3) := by decide +kernel
theorem dX5_reshapedByTile_44 : decode cX5_reshapedByTile 44 = .ok (.iload 5, 2) := by decide +kernel
theorem dX5_reshapedByTile_46 : decode cX5_reshapedByTile 46 = .ok (.iload 6, 2) := by decide +kernel
theorem dX5_reshapedByTile_48 : decode cX5_reshapedByTile 48 = .ok (.invokevirtual 73, 3) := by decide +kernel
theorem dX5_reshapedByTile_51 : decode cX5_reshapedByTile 51 = .ok (.ifCond .eq 19, 3) := by decide +kernel
theorem dX5_reshapedByTile_54 : decode cX5_reshapedByTile 54 = .ok (.aload_n 0, 1) := by decide +kernel
theorem dX5_reshapedByTile_55 : decode cX5_reshapedByTile 55 = .ok (.iload 5, 2) := by decide +kernel
theorem dX5_reshapedByTile_57 : decode cX5_reshapedByTile 57 = .ok (.iload 6, 2) := by decide +kernel
theorem dX5_reshapedByTile_59 : decode cX5_reshapedByTile 59 = .ok (.iload 7, 2) := by decide +kernel
theorem dX5_reshapedByTile_61 : decode cX5_reshapedByTile 61 = .ok (.invokevirtual 226, 3) := by decide +kernel
theorem dX5_reshapedByTile_64 : decode cX5_reshapedByTile 64 = .ok (.ifCond .eq 6, 3) := by decide +kernel
theorem dX5_reshapedByTile_67 : decode cX5_reshapedByTile 67 = .ok (.iinc 3 1, 3) := by decide +kernel
theorem dX5_reshapedByTile_70 : decode cX5_reshapedByTile 70 = .ok (.iinc 4 1, 3) := by decide +kernel
theorem dX5_reshapedByTile_73 : decode cX5_reshapedByTile 73 = .ok (.goto (-68), 3) := by decide +kernel
theorem dX5_reshapedByTile_76 : decode cX5_reshapedByTile 76 = .ok (.iload_n 3, 1) := by decide +kernel
theorem dX5_reshapedByTile_77 : decode cX5_reshapedByTile 77 = .ok (.ireturn, 1) := by decide +kernel
theorem dX5_turnOnceFromSpare_0 : decode cX5_turnOnceFromSpare 0 = .ok (.aload_n 0, 1) := by decide +kernel
theorem dX5_turnOnceFromSpare_1 : decode cX5_turnOnceFromSpare 1 = .ok (.getfield 19, 3) := by decide +kernel
theorem dX5_turnOnceFromSpare_4 : decode cX5_turnOnceFromSpare 4 = .ok (.aload_n 0, 1) := by decide +kernel
theorem dX5_turnOnceFromSpare_5 : decode cX5_turnOnceFromSpare 5 = .ok (.getfield 23, 3) := by decide +kernel
theorem dX5_turnOnceFromSpare_8 : decode cX5_turnOnceFromSpare 8 = .ok (.getfield 99, 3) := by decide +kernel
theorem dX5_turnOnceFromSpare_11 : decode cX5_turnOnceFromSpare 11 = .ok (.aload_n 0, 1) := by decide +kernel
theorem dX5_turnOnceFromSpare_12 : decode cX5_turnOnceFromSpare 12 = .ok (.getfield 23, 3) := by decide +kernel
theorem dX5_turnOnceFromSpare_15 : decode cX5_turnOnceFromSpare 15 = .ok (.getfield 95, 3) := by decide +kernel
theorem dX5_turnOnceFromSpare_18 : decode cX5_turnOnceFromSpare 18 = .ok (.invokevirtual 62, 3) := by decide +kernel
theorem dX5_turnOnceFromSpare_21 : decode cX5_turnOnceFromSpare 21 = .ok (.iconst 0, 1) := by decide +kernel
theorem dX5_turnOnceFromSpare_22 : decode cX5_turnOnceFromSpare 22 = .ok (.istore_n 1, 1) := by decide +kernel
theorem dX5_turnOnceFromSpare_23 : decode cX5_turnOnceFromSpare 23 = .ok (.iload_n 1, 1) := by decide +kernel
theorem dX5_turnOnceFromSpare_24 : decode cX5_turnOnceFromSpare 24 = .ok (.aload_n 0, 1) := by decide +kernel
theorem dX5_turnOnceFromSpare_25 : decode cX5_turnOnceFromSpare 25 = .ok (.getfield 23, 3) := by decide +kernel
theorem dX5_turnOnceFromSpare_28 : decode cX5_turnOnceFromSpare 28 = .ok (.getfield 95, 3) := by decide +kernel
theorem dX5_turnOnceFromSpare_31 : decode cX5_turnOnceFromSpare 31 = .ok (.if_icmp .ge 97, 3) := by decide +kernel
theorem dX5_turnOnceFromSpare_34 : decode cX5_turnOnceFromSpare 34 = .ok (.iconst 0, 1) := by decide +kernel
theorem dX5_turnOnceFromSpare_35 : decode cX5_turnOnceFromSpare 35 = .ok (.istore_n 2, 1) := by decide +kernel
theorem dX5_turnOnceFromSpare_36 : decode cX5_turnOnceFromSpare 36 = .ok (.iload_n 2, 1) := by decide +kernel
theorem dX5_turnOnceFromSpare_37 : decode cX5_turnOnceFromSpare 37 = .ok (.aload_n 0, 1) := by decide +kernel
theorem dX5_turnOnceFromSpare_38 : decode cX5_turnOnceFromSpare 38 = .ok (.getfield 23, 3) := by decide +kernel
theorem dX5_turnOnceFromSpare_41 : decode cX5_turnOnceFromSpare 41 = .ok (.getfield 99, 3) := by decide +kernel
theorem dX5_turnOnceFromSpare_44 : decode cX5_turnOnceFromSpare 44 = .ok (.if_icmp .ge 78, 3) := by decide +kernel
theorem dX5_turnOnceFromSpare_47 : decode cX5_turnOnceFromSpare 47 = .ok (.aload_n 0, 1) := by decide +kernel
theorem dX5_turnOnceFromSpare_48 : decode cX5_turnOnceFromSpare 48 = .ok (.getfield 23, 3) := by decide +kernel
theorem dX5_turnOnceFromSpare_51 : decode cX5_turnOnceFromSpare 51 = .ok (.getfield 95, 3) := by decide +kernel
theorem dX5_turnOnceFromSpare_54 : decode cX5_turnOnceFromSpare 54 = .ok (.iconst 1, 1) := by decide +kernel
theorem dX5_turnOnceFromSpare_55 : decode cX5_turnOnceFromSpare 55 = .ok (.isub, 1) := by decide +kernel
theorem dX5_turnOnceFromSpare_56 : decode cX5_turnOnceFromSpare 56 = .ok (.iload_n 1, 1) := by decide +kernel
theorem dX5_turnOnceFromSpare_57 : decode cX5_turnOnceFromSpare 57 = .ok (.isub, 1) := by decide +kernel
theorem dX5_turnOnceFromSpare_58 : decode cX5_turnOnceFromSpare 58 = .ok (.istore_n 3, 1) := by decide +kernel
theorem dX5_turnOnceFromSpare_59 : decode cX5_turnOnceFromSpare 59 = .ok (.aload_n 0, 1) := by decide +kernel
theorem dX5_turnOnceFromSpare_60 : decode cX5_turnOnceFromSpare 60 = .ok (.getfield 19, 3) := by decide +kernel
theorem dX5_turnOnceFromSpare_63 : decode cX5_turnOnceFromSpare 63 = .ok (.iload_n 2, 1) := by decide +kernel
theorem dX5_turnOnceFromSpare_64 : decode cX5_turnOnceFromSpare 64 = .ok (.iload_n 3, 1) := by decide +kernel
theorem dX5_turnOnceFromSpare_65 : decode cX5_turnOnceFromSpare 65 = .ok (.aload_n 0, 1) := by decide +kernel
theorem dX5_turnOnceFromSpare_66 : decode cX5_turnOnceFromSpare 66 = .ok (.getfield 23, 3) := by decide +kernel
theorem dX5_turnOnceFromSpare_69 : decode cX5_turnOnceFromSpare 69 = .ok (.iload_n 1, 1) := by decide +kernel
theorem dX5_turnOnceFromSpare_70 : decode cX5_turnOnceFromSpare 70 = .ok (.iload_n 2, 1) := by decide +kernel
theorem dX5_turnOnceFromSpare_71 : decode cX5_turnOnceFromSpare 71 = .ok (.invokevirtual 77, 3) := by decide +kernel
theorem dX5_turnOnceFromSpare_74 : decode cX5_turnOnceFromSpare 74 = .ok (.invokevirtual 84, 3) := by decide +kernel
theorem dX5_turnOnceFromSpare_77 : decode cX5_turnOnceFromSpare 77 = .ok (.pop, 1) := by decide +kernel
theorem dX5_turnOnceFromSpare_78 : decode cX5_turnOnceFromSpare 78 = .ok (.aload_n 0, 1) := by decide +kernel
theorem dX5_turnOnceFromSpare_79 : decode cX5_turnOnceFromSpare 79 = .ok (.getfield 23, 3) := by decide +kernel
theorem dX5_turnOnceFromSpare_82 : decode cX5_turnOnceFromSpare 82 = .ok (.iload_n 1, 1) := by decide +kernel
theorem dX5_turnOnceFromSpare_83 : decode cX5_turnOnceFromSpare 83 = .ok (.iload_n 2, 1) := by decide +kernel
theorem dX5_turnOnceFromSpare_84 : decode cX5_turnOnceFromSpare 84 = .ok (.invokevirtual 129, 3) := by decide +kernel
theorem dX5_turnOnceFromSpare_87 : decode cX5_turnOnceFromSpare 87 = .ok (.ifCond .eq 29, 3) := by decide +kernel
theorem dX5_turnOnceFromSpare_90 : decode cX5_turnOnceFromSpare 90 = .ok (.aload_n 0, 1) := by decide +kernel
theorem dX5_turnOnceFromSpare_91 : decode cX5_turnOnceFromSpare 91 = .ok (.getfield 19, 3) := by decide +kernel
theorem dX5_turnOnceFromSpare_94 : decode cX5_turnOnceFromSpare 94 = .ok (.iload_n 2, 1) := by decide +kernel
theorem dX5_turnOnceFromSpare_95 : decode cX5_turnOnceFromSpare 95 = .ok (.iload_n 3, 1) := by decide +kernel
theorem dX5_turnOnceFromSpare_96 : decode cX5_turnOnceFromSpare 96 = .ok (.aload_n 0, 1) := by decide +kernel
theorem dX5_turnOnceFromSpare_97 : decode cX5_turnOnceFromSpare 97 = .ok (.getfield 12, 3) := by decide +kernel
theorem dX5_turnOnceFromSpare_100 : decode cX5_turnOnceFromSpare 100 = .ok (.aload_n 0, 1) := by decide +kernel
theorem dX5_turnOnceFromSpare_101 : decode cX5_turnOnceFromSpare 101 = .ok (.getfield 23, 3) := by decide +kernel
theorem dX5_turnOnceFromSpare_104 : decode cX5_turnOnceFromSpare 104 = .ok (.iload_n 1, 1) := by decide +kernel
theorem dX5_turnOnceFromSpare_105 : decode cX5_turnOnceFromSpare 105 = .ok (.iload_n 2, 1) := by decide +kernel
theorem dX5_turnOnceFromSpare_106 : decode cX5_turnOnceFromSpare 106 = .ok (.invokevirtual 142, 3) := by decide +kernel
theorem dX5_turnOnceFromSpare_109 : decode cX5_turnOnceFromSpare 109 = .ok (.iconst 1, 1) := by decide +kernel
theorem dX5_turnOnceFromSpare_110 : decode cX5_turnOnceFromSpare 110 = .ok (.invokevirtual 154, 3) := by decide +kernel
theorem dX5_turnOnceFromSpare_113 : decode cX5_turnOnceFromSpare 113 = .ok (.invokevirtual 138, 3) := by decide +kernel
theorem dX5_turnOnceFromSpare_116 : decode cX5_turnOnceFromSpare 116 = .ok (.iinc 2 1, 3) := by decide +kernel
theorem dX5_turnOnceFromSpare_119 : decode cX5_turnOnceFromSpare 119 = .ok (.goto (-83), 3) := by decide +kernel
theorem dX5_turnOnceFromSpare_122 : decode cX5_turnOnceFromSpare 122 = .ok (.iinc 1 1, 3) := by decide +kernel
theorem dX5_turnOnceFromSpare_125 : decode cX5_turnOnceFromSpare 125 = .ok (.goto (-102), 3) := by decide +kernel
theorem dX5_turnOnceFromSpare_128 : decode cX5_turnOnceFromSpare 128 = .ok (.return_, 1) := by decide +kernel
theorem dJ6_bitCount_0f7a4_0 : decode cJ6_bitCount_0f7a4 0 = .ok (.iload_n 0, 1) := by decide +kernel
theorem dJ6_bitCount_0f7a4_1 : decode cJ6_bitCount_0f7a4 1 = .ok (.iload_n 0, 1) := by decide +kernel
theorem dJ6_bitCount_0f7a4_2 : decode cJ6_bitCount_0f7a4 2 = .ok (.iconst 1, 1) := by decide +kernel
theorem dJ6_bitCount_0f7a4_3 : decode cJ6_bitCount_0f7a4 3 = .ok (.iushr, 1) := by decide +kernel
theorem dJ6_bitCount_0f7a4_4 : decode cJ6_bitCount_0f7a4 4 = .ok (.ldc_w 265, 3) := by decide +kernel
theorem dJ6_bitCount_0f7a4_7 : decode cJ6_bitCount_0f7a4 7 = .ok (.iand, 1) := by decide +kernel
theorem dJ6_bitCount_0f7a4_8 : decode cJ6_bitCount_0f7a4 8 = .ok (.isub, 1) := by decide +kernel
theorem dJ6_bitCount_0f7a4_9 : decode cJ6_bitCount_0f7a4 9 = .ok (.istore_n 0, 1) := by decide +kernel
theorem dJ6_bitCount_0f7a4_10 : decode cJ6_bitCount_0f7a4 10 = .ok (.iload_n 0, 1) := by decide +kernel
theorem dJ6_bitCount_0f7a4_11 : decode cJ6_bitCount_0f7a4 11 = .ok (.ldc_w 266, 3) := by decide +kernel
theorem dJ6_bitCount_0f7a4_14 : decode cJ6_bitCount_0f7a4 14 = .ok (.iand, 1) := by decide +kernel
theorem dJ6_bitCount_0f7a4_15 : decode cJ6_bitCount_0f7a4 15 = .ok (.iload_n 0, 1) := by decide +kernel
theorem dJ6_bitCount_0f7a4_16 : decode cJ6_bitCount_0f7a4 16 = .ok (.iconst 2, 1) := by decide +kernel
theorem dJ6_bitCount_0f7a4_17 : decode cJ6_bitCount_0f7a4 17 = .ok (.iushr, 1) := by decide +kernel
theorem dJ6_bitCount_0f7a4_18 : decode cJ6_bitCount_0f7a4 18 = .ok (.ldc_w 266, 3) := by decide +kernel
theorem dJ6_bitCount_0f7a4_21 : decode cJ6_bitCount_0f7a4 21 = .ok (.iand, 1) := by decide +kernel
theorem dJ6_bitCount_0f7a4_22 : decode cJ6_bitCount_0f7a4 22 = .ok (.iadd, 1) := by decide +kernel
theorem dJ6_bitCount_0f7a4_23 : decode cJ6_bitCount_0f7a4 23 = .ok (.istore_n 0, 1) := by decide +kernel
theorem dJ6_bitCount_0f7a4_24 : decode cJ6_bitCount_0f7a4 24 = .ok (.iload_n 0, 1) := by decide +kernel
theorem dJ6_bitCount_0f7a4_25 : decode cJ6_bitCount_0f7a4 25 = .ok (.iload_n 0, 1) := by decide +kernel
theorem dJ6_bitCount_0f7a4_26 : decode cJ6_bitCount_0f7a4 26 = .ok (.iconst 4, 1) := by decide +kernel
theorem dJ6_bitCount_0f7a4_27 : decode cJ6_bitCount_0f7a4 27 = .ok (.iushr, 1) := by decide +kernel
theorem dJ6_bitCount_0f7a4_28 : decode cJ6_bitCount_0f7a4 28 = .ok (.iadd, 1) := by decide +kernel
theorem dJ6_bitCount_0f7a4_29 : decode cJ6_bitCount_0f7a4 29 = .ok (.ldc_w 267, 3) := by decide +kernel
theorem dJ6_bitCount_0f7a4_32 : decode cJ6_bitCount_0f7a4 32 = .ok (.iand, 1) := by decide +kernel
theorem dJ6_bitCount_0f7a4_33 : decode cJ6_bitCount_0f7a4 33 = .ok (.istore_n 0, 1) := by decide +kernel
theorem dJ6_bitCount_0f7a4_34 : decode cJ6_bitCount_0f7a4 34 = .ok (.iload_n 0, 1) := by decide +kernel
theorem dJ6_bitCount_0f7a4_35 : decode cJ6_bitCount_0f7a4 35 = .ok (.iload_n 0, 1) := by decide +kernel
theorem dJ6_bitCount_0f7a4_36 : decode cJ6_bitCount_0f7a4 36 = .ok (.bipush 8, 2) := by decide +kernel
theorem dJ6_bitCount_0f7a4_38 : decode cJ6_bitCount_0f7a4 38 = .ok (.iushr, 1) := by decide +kernel
theorem dJ6_bitCount_0f7a4_39 : decode cJ6_bitCount_0f7a4 39 = .ok (.iadd, 1) := by decide +kernel
theorem dJ6_bitCount_0f7a4_40 : decode cJ6_bitCount_0f7a4 40 = .ok (.istore_n 0, 1) := by decide +kernel
theorem dJ6_bitCount_0f7a4_41 : decode cJ6_bitCount_0f7a4 41 = .ok (.iload_n 0, 1) := by decide +kernel
theorem dJ6_bitCount_0f7a4_42 : decode cJ6_bitCount_0f7a4 42 = .ok (.iload_n 0, 1) := by decide +kernel
theorem dJ6_bitCount_0f7a4_43 : decode cJ6_bitCount_0f7a4 43 = .ok (.bipush 16, 2) := by decide +kernel
theorem dJ6_bitCount_0f7a4_45 : decode cJ6_bitCount_0f7a4 45 = .ok (.iushr, 1) := by decide +kernel
theorem dJ6_bitCount_0f7a4_46 : decode cJ6_bitCount_0f7a4 46 = .ok (.iadd, 1) := by decide +kernel
theorem dJ6_bitCount_0f7a4_47 : decode cJ6_bitCount_0f7a4 47 = .ok (.istore_n 0, 1) := by decide +kernel
theorem dJ6_bitCount_0f7a4_48 : decode cJ6_bitCount_0f7a4 48 = .ok (.iload_n 0, 1) := by decide +kernel
theorem dJ6_bitCount_0f7a4_49 : decode cJ6_bitCount_0f7a4 49 = .ok (.bipush 63, 2) := by decide +kernel
theorem dJ6_bitCount_0f7a4_51 : decode cJ6_bitCount_0f7a4 51 = .ok (.iand, 1) := by decide +kernel
theorem dJ6_bitCount_0f7a4_52 : decode cJ6_bitCount_0f7a4 52 = .ok (.ireturn, 1) := by decide +kernel
theorem dJ9_max_7cf53_0 : decode cJ9_max_7cf53 0 = .ok (.iload_n 0, 1) := by decide +kernel
theorem dJ9_max_7cf53_1 : decode cJ9_max_7cf53 1 = .ok (.iload_n 1, 1) := by decide +kernel
theorem dJ9_max_7cf53_2 : decode cJ9_max_7cf53 2 = .ok (.if_icmp .lt 7, 3) := by decide +kernel
theorem dJ9_max_7cf53_5 : decode cJ9_max_7cf53 5 = .ok (.iload_n 0, 1) := by decide +kernel
theorem dJ9_max_7cf53_6 : decode cJ9_max_7cf53 6 = .ok (.goto 4, 3) := by decide +kernel
theorem dJ9_max_7cf53_9 : decode cJ9_max_7cf53 9 = .ok (.iload_n 1, 1) := by decide +kernel
theorem dJ9_max_7cf53_10 : decode cJ9_max_7cf53 10 = .ok (.ireturn, 1) := by decide +kernel
theorem dJ9_min_7cf53_0 : decode cJ9_min_7cf53 0 = .ok (.iload_n 0, 1) := by decide +kernel
theorem dJ9_min_7cf53_1 : decode cJ9_min_7cf53 1 = .ok (.iload_n 1, 1) := by decide +kernel
theorem dJ9_min_7cf53_2 : decode cJ9_min_7cf53 2 = .ok (.if_icmp .gt 7, 3) := by decide +kernel
theorem dJ9_min_7cf53_5 : decode cJ9_min_7cf53 5 = .ok (.iload_n 0, 1) := by decide +kernel
theorem dJ9_min_7cf53_6 : decode cJ9_min_7cf53 6 = .ok (.goto 4, 3) := by decide +kernel
theorem dJ9_min_7cf53_9 : decode cJ9_min_7cf53 9 = .ok (.iload_n 1, 1) := by decide +kernel
theorem dJ9_min_7cf53_10 : decode cJ9_min_7cf53 10 = .ok (.ireturn, 1) := by decide +kernel
theorem dJ7_fill_53178_0 : decode cJ7_fill_53178 0 = .ok (.iconst 0, 1) := by decide +kernel
theorem dJ7_fill_53178_1 : decode cJ7_fill_53178 1 = .ok (.istore_n 2, 1) := by decide +kernel
theorem dJ7_fill_53178_2 : decode cJ7_fill_53178 2 = .ok (.aload_n 0, 1) := by decide +kernel
theorem dJ7_fill_53178_3 : decode cJ7_fill_53178 3 = .ok (.arraylength, 1) := by decide +kernel
theorem dJ7_fill_53178_4 : decode cJ7_fill_53178 4 = .ok (.istore_n 3, 1) := by decide +kernel
theorem dJ7_fill_53178_5 : decode cJ7_fill_53178 5 = .ok (.iload_n 2, 1) := by decide +kernel
theorem dJ7_fill_53178_6 : decode cJ7_fill_53178 6 = .ok (.iload_n 3, 1) := by decide +kernel
theorem dJ7_fill_53178_7 : decode cJ7_fill_53178 7 = .ok (.if_icmp .ge 13, 3) := by decide +kernel
theorem dJ7_fill_53178_10 : decode cJ7_fill_53178 10 = .ok (.aload_n 0, 1) := by decide +kernel
theorem dJ7_fill_53178_11 : decode cJ7_fill_53178 11 = .ok (.iload_n 2, 1) := by decide +kernel
theorem dJ7_fill_53178_12 : decode cJ7_fill_53178 12 = .ok (.iload_n 1, 1) := by decide +kernel
theorem dJ7_fill_53178_13 : decode cJ7_fill_53178 13 = .ok (.iastore, 1) := by decide +kernel
theorem dJ7_fill_53178_14 : decode cJ7_fill_53178 14 = .ok (.iinc 2 1, 3) := by decide +kernel
theorem dJ7_fill_53178_17 : decode cJ7_fill_53178 17 = .ok (.goto (-12), 3) := by decide +kernel
theorem dJ7_fill_53178_20 : decode cJ7_fill_53178 20 = .ok (.return_, 1) := by decide +kernel
